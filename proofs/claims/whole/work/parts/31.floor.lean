theorem rOn_rg (R : HP) (c r : Int) : rOn R c r = -1 ∨ (0 ≤ rOn R c r ∧ rOn R c r < R 0 3 ∧ R 2 (rOn R c r).toNat = c ∧ R 3 (rOn R c r).toNat = r) := by
  have key : ∀ (d i : Nat), fnd (fun j => R 2 j = c ∧ R 3 j = r) d i = -1 ∨ (∃ j : Nat, fnd (fun j => R 2 j = c ∧ R 3 j = r) d i = j ∧ j < i + d ∧ R 2 j = c ∧ R 3 j = r) := by
    intro d
    induction d with
    | zero => intro i; exact Or.inl rfl
    | succ d ih =>
      intro i
      by_cases hp : R 2 i = c ∧ R 3 i = r
      · exact Or.inr ⟨i, fnd_h hp, by omega, hp.1, hp.2⟩
      · rw [fnd_s hp]
        rcases ih (i + 1) with q | ⟨j, q1, q2, q3⟩
        · exact Or.inl q
        · exact Or.inr ⟨j, q1, by omega, q3⟩
  rcases key (R 0 3).toNat 0 with q | ⟨j, q1, q2, q3, q4⟩
  · exact Or.inl q
  · right
    have e : rOn R c r = j := q1
    rw [e]
    exact ⟨by omega, by omega, q3, q4⟩
theorem rIn_rg {R : HP} (W : WR R) {r : Nat} (hr : (r : Int) < R 0 1) (l : Int) : 0 ≤ rIn R l r ∧ rIn R l r ≤ 9 := by
  have w := W.2.1 r hr
  have w0 := W.1
  unfold rIn
  split <;> omega
theorem rBend_rg {R : HP} (W : WR R) {r : Nat} (hr : (r : Int) < R 0 1) : 0 ≤ rBend R r ∧ rBend R r ≤ 9 := by
  have w := W.2.1 r hr
  have w1 := W.2.1 (r - 1) (by omega)
  have w0 := W.1
  unfold rBend
  omega
def rByLine (R : HP) (l : Int) : Int := sumF (fun r => rIn R l r) (R 0 1).toNat 0
def rBoards (R : HP) (l : Int) : Int := rByLine R l + sumF (fun i => if rHo R i = rBy R (R 2 i) (R 3 i).toNat then 0 else if rHo R i = l then 1 else -1) (R 0 3).toNat 0
def rSet (R : HP) (l : Int) : Int := fld (fun i s => if rHo R i = l then o_or s (o_shl 1 i) else s) (R 0 3).toNat 0 0
def rChalk (R : HP) : Int := R 0 1 + sumF (fun r => rBend R r) (R 0 1 - 1).toNat 1
def rBulge (R : HP) : Int := sumF (fun r => if rBend R r ≤ R 0 2 then 0 else 1) (R 0 1 - 1).toNat 1
def rStrong (R : HP) (l : Int) : Int := fld (fun r s => if s < 0 then (r : Int) else if rIn R l r ≤ rIn R l s.toNat then s else r) (R 0 1).toNat 0 (-1)
def rLeast (R : HP) (l : Int) : Int := fld (fun i s => if rHo R i = l then (if s < 0 then (i : Int) else if rWo R l s.toNat ≤ rWo R l i then s else i) else s) (R 0 3).toNat 0 (-1)
def rWant (R : HP) (l : Int) : Int := fld (fun i s => if rHo R i = l then s else (if s < 0 then (i : Int) else if rWo R l i ≤ rWo R l s.toNat then s else i)) (R 0 3).toNat 0 (-1)
theorem rVal_rg {R : HP} (W : WR R) (l m : Int) : 0 ≤ rVal R l m ∧ rVal R l m ≤ 990 := by
  have w0 := W.1
  have := sumF_rng (f := fun i => if rHo R i = l then rWo R m i else 0) (a := 0) (b := 99) (R 0 3).toNat 0 (fun j _ hj => by
    have := rWo_rg W (t := j) (by omega) m
    split <;> omega)
  unfold rVal
  omega
theorem rByLine_rg {R : HP} (W : WR R) (l : Int) : 0 ≤ rByLine R l ∧ rByLine R l ≤ 63 := by
  have w0 := W.1
  have := sumF_rng (f := fun r => rIn R l r) (a := 0) (b := 9) (R 0 1).toNat 0 (fun j _ hj => rIn_rg W (by omega) l)
  unfold rByLine
  omega

theorem g_Fl_holder_0 {Q : PQ} {h : HP} {x1 : Int} {x2 : Int} {f0 : Nat} (h_f0 : isF f0)
    (o1 : WR (rmC h f0))
    (o2 : 0 ≤ rOn (rmC h f0) x1 x2 → 0 ≤ (rOn (rmC h f0) x1 x2) ∧ (rOn (rmC h f0) x1 x2) < h f0 3)
    (k3 : 0 ≤ rOn (rmC h f0) x1 x2 → Q (some (vi (rHo (rmC h f0) (rOn (rmC h f0) x1 x2).toNat))) h)
    (o4 : ¬ 0 ≤ rOn (rmC h f0) x1 x2 → 0 ≤ x2 ∧ x2 < h f0 1)
    (k5 : ¬ 0 ≤ rOn (rmC h f0) x1 x2 → Q (some (vi (rBy (rmC h f0) x1 x2.toNat))) h) :
    Wp true i_Fl_holder 0 [vr f0, vi x1, vi x2, vr 9999] [] h Q := by
  refine r_aload_n (v := f0) f_39_0 rfl (F_n h_f0) ?_
  refine r_iload_n (v := x1) f_39_1 rfl ?_
  refine r_iload_n (v := x2) f_39_2 rfl ?_
  refine r_callv (as := [vr f0, vi x1, vi x2]) (st' := []) (ls0 := [vr f0, vi x1, vi x2, vr 9999]) f_39_3 (by decide) rfl rfl (Nat.le_of_ble_eq_true rfl) (Nat.le_of_ble_eq_true rfl) ⟨_, _, rfl, (F_k h_f0)⟩ rfl ?_
  refine c_Fl_thingAt h_f0 o1 ?_
  show Wp true i_Fl_holder 6 [vr f0, vi x1, vi x2, vr 9999] [vi (rOn (rmC h f0) x1 x2)] h Q
  refine r_istore_n (ls' := [vr f0, vi x1, vi x2, vi (rOn (rmC h f0) x1 x2)]) f_39_6 (Nat.le_of_ble_eq_true rfl) rfl ?_
  refine r_iload_n (v := rOn (rmC h f0) x1 x2) f_39_7 rfl ?_
  refine r_br (t := 20) f_39_8 rfl cb_ge (fun c1 => ?_) (fun c1 => ?_)
  · refine r_aload_n (v := f0) f_39_20 rfl (F_n h_f0) ?_
    refine r_iload_n (v := rOn (rmC h f0) x1 x2) f_39_21 rfl ?_
    refine r_callv (as := [vr f0, vi (rOn (rmC h f0) x1 x2)]) (st' := []) (ls0 := [vr f0, vi (rOn (rmC h f0) x1 x2)]) f_39_22 (by decide) rfl rfl (Nat.le_of_ble_eq_true rfl) (Nat.le_of_ble_eq_true rfl) ⟨_, _, rfl, (F_k h_f0)⟩ rfl ?_
    refine c_Fl_holderOf h_f0 o1 (o2 c1) ?_
    show Wp true i_Fl_holder 25 [vr f0, vi x1, vi x2, vi (rOn (rmC h f0) x1 x2)] [vi (rHo (rmC h f0) (rOn (rmC h f0) x1 x2).toNat)] h Q
    exact r_reti f_39_25 rfl (k3 c1)
  · refine r_aload_n (v := f0) f_39_11 rfl (F_n h_f0) ?_
    refine r_iload_n (v := x1) f_39_12 rfl ?_
    refine r_iload_n (v := x2) f_39_13 rfl ?_
    refine r_callv (as := [vr f0, vi x1, vi x2]) (st' := []) (ls0 := [vr f0, vi x1, vi x2]) f_39_14 (by decide) rfl rfl (Nat.le_of_ble_eq_true rfl) (Nat.le_of_ble_eq_true rfl) ⟨_, _, rfl, (F_k h_f0)⟩ rfl ?_
    refine c_Fl_landByLine h_f0 o1 (o4 c1) ?_
    show Wp true i_Fl_holder 17 [vr f0, vi x1, vi x2, vi (rOn (rmC h f0) x1 x2)] [vi (rBy (rmC h f0) x1 x2.toNat)] h Q
    refine r_goto (t := 25) f_39_17 rfl ?_
    exact r_reti f_39_25 rfl (k5 c1)

theorem c_Fl_holder {Q : PQ} {h : HP} {x1 : Int} {x2 : Int} {f0 : Nat} (h_f0 : isF f0) (o1 : WR (rmC h f0)) (o2 : 0 ≤ x2 ∧ x2 < h f0 1) (k : Q (some (vi (rLand (rmC h f0) x1 x2))) h) :
    Wp true i_Fl_holder 0 [vr f0, vi x1, vi x2, vr 9999] [] h Q := by
  have w := rOn_rg (rmC h f0) x1 x2
  have e3 : rmC h f0 0 3 = h f0 3 := rfl
  simp only [rLand] at k
  refine g_Fl_holder_0 h_f0 ?_ ?_ ?_ ?_ ?_
  · first | omega | (exfalso; omega) | exact ⟨by omega, by omega⟩ | (exact o1)
  · intro c1; (try simp only [Int.toNat_natCast] at c1); first | omega | (exfalso; omega) | exact ⟨by omega, by omega⟩ | (exact o1)
  · intro c1; (try simp only [Int.toNat_natCast] at c1); first | (exfalso; omega) | (rw [if_pos c1] at k; exact k)
  · intro c1; (try simp only [Int.toNat_natCast] at c1); first | omega | (exfalso; omega) | exact ⟨by omega, by omega⟩ | (exact o1)
  · intro c1; (try simp only [Int.toNat_natCast] at c1); first | (exfalso; omega) | (rw [if_neg c1] at k; exact k)

theorem g_Fl_boardsByLine_0 {Q : PQ} {h : HP} {x1 : Int} {f0 : Nat} (h_f0 : isF f0)
    (k1 : Wp true i_Fl_boardsByLine 4 [vr f0, vi x1, vi 0, vi 0] [] h Q) :
    Wp true i_Fl_boardsByLine 0 [vr f0, vi x1, vr 9999, vr 9999] [] h Q := by
  refine r_iconst f_42_0 (by decide) ?_
  refine r_istore_n (ls' := [vr f0, vi x1, vi 0, vr 9999]) f_42_1 (Nat.le_of_ble_eq_true rfl) rfl ?_
  refine r_iconst f_42_2 (by decide) ?_
  refine r_istore_n (ls' := [vr f0, vi x1, vi 0, vi 0]) f_42_3 (Nat.le_of_ble_eq_true rfl) rfl ?_
  exact k1

theorem g_Fl_boardsByLine_4 {Q : PQ} {h : HP} {x1 : Int} {x2 : Int} {x3 : Int} {f0 : Nat} (h_f0 : isF f0)
    (k1 : h f0 1 ≤ x3 → Q (some (vi x2)) h)
    (o2 : ¬ h f0 1 ≤ x3 → WR (rmC h f0))
    (o3 : ¬ h f0 1 ≤ x3 → 0 ≤ x3 ∧ x3 < h f0 1)
    (o4 : ¬ h f0 1 ≤ x3 → -2147483648 ≤ x2 + (rIn (rmC h f0) x1 x3.toNat) ∧ x2 + (rIn (rmC h f0) x1 x3.toNat) ≤ 2147483647)
    (o5 : ¬ h f0 1 ≤ x3 → -2147483648 ≤ x3 + 1 ∧ x3 + 1 ≤ 2147483647)
    (k6 : ¬ h f0 1 ≤ x3 → Wp true i_Fl_boardsByLine 4 [vr f0, vi x1, vi (x2 + (rIn (rmC h f0) x1 x3.toNat)), vi (x3 + 1)] [] h Q) :
    Wp true i_Fl_boardsByLine 4 [vr f0, vi x1, vi x2, vi x3] [] h Q := by
  refine r_iload_n (v := x3) f_42_4 rfl ?_
  refine r_aload_n (v := f0) f_42_5 rfl (F_n h_f0) ?_
  refine r_geti (v := h f0 1) f_42_6 (F_k h_f0) (by decide) rfl ?_
  refine r_br2 (t := 27) f_42_9 rfl cb_ge (fun c1 => ?_) (fun c1 => ?_)
  · refine r_iload_n (v := x2) f_42_27 rfl ?_
    exact r_reti f_42_28 rfl (k1 c1)
  · refine r_iload_n (v := x2) f_42_12 rfl ?_
    refine r_aload_n (v := f0) f_42_13 rfl (F_n h_f0) ?_
    refine r_iload_n (v := x1) f_42_14 rfl ?_
    refine r_iload_n (v := x3) f_42_15 rfl ?_
    refine r_callv (as := [vr f0, vi x1, vi x3]) (st' := [vi x2]) (ls0 := [vr f0, vi x1, vi x3]) f_42_16 (by decide) rfl rfl (Nat.le_of_ble_eq_true rfl) (Nat.le_of_ble_eq_true rfl) ⟨_, _, rfl, (F_k h_f0)⟩ rfl ?_
    refine c_Fl_boardsInRow h_f0 (o2 c1) (o3 c1) ?_
    show Wp true i_Fl_boardsByLine 19 [vr f0, vi x1, vi x2, vi x3] [vi (rIn (rmC h f0) x1 x3.toNat), vi x2] h Q
    refine r_iadd (u := x2 + (rIn (rmC h f0) x1 x3.toNat)) f_42_19 rfl (o4 c1) ?_
    refine r_istore_n (ls' := [vr f0, vi x1, vi (x2 + (rIn (rmC h f0) x1 x3.toNat)), vi x3]) f_42_20 (Nat.le_of_ble_eq_true rfl) rfl ?_
    refine r_iinc (v := x3) (w := x3 + 1) (ls' := [vr f0, vi x1, vi (x2 + (rIn (rmC h f0) x1 x3.toNat)), vi (x3 + 1)]) f_42_21 rfl rfl (o5 c1) rfl ?_
    refine r_goto (t := 4) f_42_24 rfl ?_
    exact (k6 c1)

theorem c_Fl_boardsByLine {Q : PQ} {h : HP} {x1 : Int} {f0 : Nat} (h_f0 : isF f0) (o1 : WR (rmC h f0)) (k : Q (some (vi (rByLine (rmC h f0) x1))) h) :
    Wp true i_Fl_boardsByLine 0 [vr f0, vi x1, vr 9999, vr 9999] [] h Q := by
  have w := WC_0 o1
  refine g_Fl_boardsByLine_0 h_f0 ?_
  have key : ∀ (d i : Nat) (s : Int), ((i : Int) + d = h f0 1 ∨ (d = 0 ∧ h f0 1 ≤ i)) → (0 ≤ s ∧ s ≤ 9 * i) → Q (some (vi (s + sumF (fun r => rIn (rmC h f0) x1 r) d i))) h → Wp true i_Fl_boardsByLine 4 [vr f0, vi x1, vi s, vi (i : Int)] [] h Q := by
    intro d
    induction d with
    | zero =>
      intro i s e hi kk
      simp only [fld, sumF, Int.add_zero] at kk
      refine g_Fl_boardsByLine_4 h_f0 ?_ ?_ ?_ ?_ ?_ ?_
      · intro c1; (try simp only [Int.toNat_natCast] at c1); first | (exfalso; omega) | (exact kk)
      · intro c1; (try simp only [Int.toNat_natCast] at c1); first | omega | (exfalso; omega) | exact ⟨by omega, by omega⟩ | (first | exact o1 | (simp only [Int.toNat_natCast]; omega))
      · intro c1; (try simp only [Int.toNat_natCast] at c1); first | omega | (exfalso; omega) | exact ⟨by omega, by omega⟩ | (first | exact o1 | (simp only [Int.toNat_natCast]; omega))
      · intro c1; (try simp only [Int.toNat_natCast] at c1); first | omega | (exfalso; omega) | exact ⟨by omega, by omega⟩ | (first | exact o1 | (simp only [Int.toNat_natCast]; omega))
      · intro c1; (try simp only [Int.toNat_natCast] at c1); first | omega | (exfalso; omega) | exact ⟨by omega, by omega⟩ | (first | exact o1 | (simp only [Int.toNat_natCast]; omega))
      · intro c1; (try simp only [Int.toNat_natCast] at c1); first | (exfalso; omega) | (skip)
    | succ d ih =>
      intro i s e hi kk
      have r1 := rIn_rg o1 (r := i) (show (i : Int) < h f0 1 by omega) x1
      have e2 : ((i : Int)).toNat = i := Int.toNat_natCast i
      refine g_Fl_boardsByLine_4 h_f0 ?_ ?_ ?_ ?_ ?_ ?_
      · intro c1; (try simp only [Int.toNat_natCast] at c1); first | (exfalso; omega) | (skip)
      · intro c1; (try simp only [Int.toNat_natCast] at c1); first | omega | (exfalso; omega) | exact ⟨by omega, by omega⟩ | (first | exact o1 | (simp only [Int.toNat_natCast]; omega))
      · intro c1; (try simp only [Int.toNat_natCast] at c1); first | omega | (exfalso; omega) | exact ⟨by omega, by omega⟩ | (first | exact o1 | (simp only [Int.toNat_natCast]; omega))
      · intro c1; (try simp only [Int.toNat_natCast] at c1); first | omega | (exfalso; omega) | exact ⟨by omega, by omega⟩ | (first | exact o1 | (simp only [Int.toNat_natCast]; omega))
      · intro c1; (try simp only [Int.toNat_natCast] at c1); first | omega | (exfalso; omega) | exact ⟨by omega, by omega⟩ | (first | exact o1 | (simp only [Int.toNat_natCast]; omega))
      · intro c1; (try simp only [Int.toNat_natCast] at c1); first | (exfalso; omega) | (refine ih (i + 1) _ (by omega) (by (try simp only [Int.toNat_natCast]); omega) (kv kk ?_); simp only [sumF, Int.toNat_natCast] <;> omega)
  refine key (h f0 1).toNat 0 0 (by omega) (by omega) ?_
  rw [Int.zero_add]; exact k

theorem g_Fl_boardsOf_0 {Q : PQ} {h : HP} {x1 : Int} {f0 : Nat} (h_f0 : isF f0)
    (o1 : WR (rmC h f0))
    (k2 : Wp true i_Fl_boardsOf 8 [vr f0, vi x1, vi (rByLine (rmC h f0) x1), vi 0, vr 9999, vr 9999] [] h Q) :
    Wp true i_Fl_boardsOf 0 [vr f0, vi x1, vr 9999, vr 9999, vr 9999, vr 9999] [] h Q := by
  refine r_aload_n (v := f0) f_43_0 rfl (F_n h_f0) ?_
  refine r_iload_n (v := x1) f_43_1 rfl ?_
  refine r_callv (as := [vr f0, vi x1]) (st' := []) (ls0 := [vr f0, vi x1, vr 9999, vr 9999]) f_43_2 (by decide) rfl rfl (Nat.le_of_ble_eq_true rfl) (Nat.le_of_ble_eq_true rfl) ⟨_, _, rfl, (F_k h_f0)⟩ rfl ?_
  refine c_Fl_boardsByLine h_f0 o1 ?_
  show Wp true i_Fl_boardsOf 5 [vr f0, vi x1, vr 9999, vr 9999, vr 9999, vr 9999] [vi (rByLine (rmC h f0) x1)] h Q
  refine r_istore_n (ls' := [vr f0, vi x1, vi (rByLine (rmC h f0) x1), vr 9999, vr 9999, vr 9999]) f_43_5 (Nat.le_of_ble_eq_true rfl) rfl ?_
  refine r_iconst f_43_6 (by decide) ?_
  refine r_istore_n (ls' := [vr f0, vi x1, vi (rByLine (rmC h f0) x1), vi 0, vr 9999, vr 9999]) f_43_7 (Nat.le_of_ble_eq_true rfl) rfl ?_
  exact k2

theorem g_Fl_boardsOf_8 {Q : PQ} {h : HP} {x1 : Int} {x2 : Int} {x3 : Int} {j4 : AV} {j5 : AV} {f0 : Nat} (h_f0 : isF f0)
    (k1 : h f0 3 ≤ x3 → Q (some (vi x2)) h)
    (o2 : ¬ h f0 3 ≤ x3 → 0 ≤ x3 ∧ x3 < 10)
    (o3 : ¬ h f0 3 ≤ x3 → WR (rmC h f0))
    (o4 : ¬ h f0 3 ≤ x3 → 0 ≤ (h (f0 + 5) x3.toNat) ∧ (h (f0 + 5) x3.toNat) < h f0 1)
    (o5 : ¬ h f0 3 ≤ x3 → 0 ≤ x3 ∧ x3 < h f0 3)
    (o6 : ¬ h f0 3 ≤ x3 → rHo (rmC h f0) x3.toNat = rBy (rmC h f0) (h (f0 + 4) x3.toNat) (h (f0 + 5) x3.toNat).toNat → -2147483648 ≤ x3 + 1 ∧ x3 + 1 ≤ 2147483647)
    (k7 : ¬ h f0 3 ≤ x3 → rHo (rmC h f0) x3.toNat = rBy (rmC h f0) (h (f0 + 4) x3.toNat) (h (f0 + 5) x3.toNat).toNat → Wp true i_Fl_boardsOf 8 [vr f0, vi x1, vi x2, vi (x3 + 1), vi (rBy (rmC h f0) (h (f0 + 4) x3.toNat) (h (f0 + 5) x3.toNat).toNat), vi (rHo (rmC h f0) x3.toNat)] [] h Q)
    (o8 : ¬ h f0 3 ≤ x3 → ¬ rHo (rmC h f0) x3.toNat = rBy (rmC h f0) (h (f0 + 4) x3.toNat) (h (f0 + 5) x3.toNat).toNat → ¬ rHo (rmC h f0) x3.toNat = x1 → -2147483648 ≤ x2 + (-1) ∧ x2 + (-1) ≤ 2147483647)
    (o9 : ¬ h f0 3 ≤ x3 → ¬ rHo (rmC h f0) x3.toNat = rBy (rmC h f0) (h (f0 + 4) x3.toNat) (h (f0 + 5) x3.toNat).toNat → ¬ rHo (rmC h f0) x3.toNat = x1 → -2147483648 ≤ x3 + 1 ∧ x3 + 1 ≤ 2147483647)
    (k10 : ¬ h f0 3 ≤ x3 → ¬ rHo (rmC h f0) x3.toNat = rBy (rmC h f0) (h (f0 + 4) x3.toNat) (h (f0 + 5) x3.toNat).toNat → ¬ rHo (rmC h f0) x3.toNat = x1 → Wp true i_Fl_boardsOf 8 [vr f0, vi x1, vi (x2 + (-1)), vi (x3 + 1), vi (rBy (rmC h f0) (h (f0 + 4) x3.toNat) (h (f0 + 5) x3.toNat).toNat), vi (rHo (rmC h f0) x3.toNat)] [] h Q)
    (o11 : ¬ h f0 3 ≤ x3 → ¬ rHo (rmC h f0) x3.toNat = rBy (rmC h f0) (h (f0 + 4) x3.toNat) (h (f0 + 5) x3.toNat).toNat → rHo (rmC h f0) x3.toNat = x1 → -2147483648 ≤ x2 + 1 ∧ x2 + 1 ≤ 2147483647)
    (o12 : ¬ h f0 3 ≤ x3 → ¬ rHo (rmC h f0) x3.toNat = rBy (rmC h f0) (h (f0 + 4) x3.toNat) (h (f0 + 5) x3.toNat).toNat → rHo (rmC h f0) x3.toNat = x1 → -2147483648 ≤ x3 + 1 ∧ x3 + 1 ≤ 2147483647)
    (k13 : ¬ h f0 3 ≤ x3 → ¬ rHo (rmC h f0) x3.toNat = rBy (rmC h f0) (h (f0 + 4) x3.toNat) (h (f0 + 5) x3.toNat).toNat → rHo (rmC h f0) x3.toNat = x1 → Wp true i_Fl_boardsOf 8 [vr f0, vi x1, vi (x2 + 1), vi (x3 + 1), vi (rBy (rmC h f0) (h (f0 + 4) x3.toNat) (h (f0 + 5) x3.toNat).toNat), vi (rHo (rmC h f0) x3.toNat)] [] h Q) :
    Wp true i_Fl_boardsOf 8 [vr f0, vi x1, vi x2, vi x3, j4, j5] [] h Q := by
  refine r_iload_n (v := x3) f_43_8 rfl ?_
  refine r_aload_n (v := f0) f_43_9 rfl (F_n h_f0) ?_
  refine r_geti (v := h f0 3) f_43_10 (F_k h_f0) (by decide) rfl ?_
  refine r_br2 (t := 68) f_43_13 rfl cb_ge (fun c1 => ?_) (fun c1 => ?_)
  · refine r_iload_n (v := x2) f_43_68 rfl ?_
    exact r_reti f_43_69 rfl (k1 c1)
  · refine r_aload_n (v := f0) f_43_16 rfl (F_n h_f0) ?_
    refine r_aload_n (v := f0) f_43_17 rfl (F_n h_f0) ?_
    refine r_getr (q := (f0 + 4)) f_43_18 (F_k h_f0) (by decide) (Or.inl rfl) rfl ?_
    refine r_iload_n (v := x3) f_43_21 rfl ?_
    refine r_iaload (n := 10) (v := h (f0 + 4) x3.toNat) f_43_22 (F_4 h_f0) (o2 c1) rfl ?_
    refine r_aload_n (v := f0) f_43_23 rfl (F_n h_f0) ?_
    refine r_getr (q := (f0 + 5)) f_43_24 (F_k h_f0) (by decide) (Or.inl rfl) rfl ?_
    refine r_iload_n (v := x3) f_43_27 rfl ?_
    refine r_iaload (n := 10) (v := h (f0 + 5) x3.toNat) f_43_28 (F_5 h_f0) (o2 c1) rfl ?_
    refine r_callv (as := [vr f0, vi (h (f0 + 4) x3.toNat), vi (h (f0 + 5) x3.toNat)]) (st' := []) (ls0 := [vr f0, vi (h (f0 + 4) x3.toNat), vi (h (f0 + 5) x3.toNat)]) f_43_29 (by decide) rfl rfl (Nat.le_of_ble_eq_true rfl) (Nat.le_of_ble_eq_true rfl) ⟨_, _, rfl, (F_k h_f0)⟩ rfl ?_
    refine c_Fl_landByLine h_f0 (o3 c1) (o4 c1) ?_
    show Wp true i_Fl_boardsOf 32 [vr f0, vi x1, vi x2, vi x3, j4, j5] [vi (rBy (rmC h f0) (h (f0 + 4) x3.toNat) (h (f0 + 5) x3.toNat).toNat)] h Q
    refine r_istore (ls' := [vr f0, vi x1, vi x2, vi x3, vi (rBy (rmC h f0) (h (f0 + 4) x3.toNat) (h (f0 + 5) x3.toNat).toNat), j5]) f_43_32 (Nat.le_of_ble_eq_true rfl) rfl ?_
    refine r_aload_n (v := f0) f_43_34 rfl (F_n h_f0) ?_
    refine r_iload_n (v := x3) f_43_35 rfl ?_
    refine r_callv (as := [vr f0, vi x3]) (st' := []) (ls0 := [vr f0, vi x3]) f_43_36 (by decide) rfl rfl (Nat.le_of_ble_eq_true rfl) (Nat.le_of_ble_eq_true rfl) ⟨_, _, rfl, (F_k h_f0)⟩ rfl ?_
    refine c_Fl_holderOf h_f0 (o3 c1) (o5 c1) ?_
    show Wp true i_Fl_boardsOf 39 [vr f0, vi x1, vi x2, vi x3, vi (rBy (rmC h f0) (h (f0 + 4) x3.toNat) (h (f0 + 5) x3.toNat).toNat), j5] [vi (rHo (rmC h f0) x3.toNat)] h Q
    refine r_istore (ls' := [vr f0, vi x1, vi x2, vi x3, vi (rBy (rmC h f0) (h (f0 + 4) x3.toNat) (h (f0 + 5) x3.toNat).toNat), vi (rHo (rmC h f0) x3.toNat)]) f_43_39 (Nat.le_of_ble_eq_true rfl) rfl ?_
    refine r_iload (v := rHo (rmC h f0) x3.toNat) f_43_41 rfl ?_
    refine r_iload (v := rBy (rmC h f0) (h (f0 + 4) x3.toNat) (h (f0 + 5) x3.toNat).toNat) f_43_43 rfl ?_
    refine r_br2 (t := 62) f_43_45 rfl cb_eq (fun c2 => ?_) (fun c2 => ?_)
    · refine r_iinc (v := x3) (w := x3 + 1) (ls' := [vr f0, vi x1, vi x2, vi (x3 + 1), vi (rBy (rmC h f0) (h (f0 + 4) x3.toNat) (h (f0 + 5) x3.toNat).toNat), vi (rHo (rmC h f0) x3.toNat)]) f_43_62 rfl rfl (o6 c1 c2) rfl ?_
      refine r_goto (t := 8) f_43_65 rfl ?_
      exact (k7 c1 c2)
    · refine r_iload_n (v := x2) f_43_48 rfl ?_
      refine r_iload (v := rHo (rmC h f0) x3.toNat) f_43_49 rfl ?_
      refine r_iload_n (v := x1) f_43_51 rfl ?_
      refine r_br2 (t := 59) f_43_52 rfl cb_ne (fun c3 => ?_) (fun c3 => ?_)
      · refine r_iconst f_43_59 (by decide) ?_
        refine r_iadd (u := x2 + (-1)) f_43_60 rfl (o8 c1 c2 c3) ?_
        refine r_istore_n (ls' := [vr f0, vi x1, vi (x2 + (-1)), vi x3, vi (rBy (rmC h f0) (h (f0 + 4) x3.toNat) (h (f0 + 5) x3.toNat).toNat), vi (rHo (rmC h f0) x3.toNat)]) f_43_61 (Nat.le_of_ble_eq_true rfl) rfl ?_
        refine r_iinc (v := x3) (w := x3 + 1) (ls' := [vr f0, vi x1, vi (x2 + (-1)), vi (x3 + 1), vi (rBy (rmC h f0) (h (f0 + 4) x3.toNat) (h (f0 + 5) x3.toNat).toNat), vi (rHo (rmC h f0) x3.toNat)]) f_43_62 rfl rfl (o9 c1 c2 c3) rfl ?_
        refine r_goto (t := 8) f_43_65 rfl ?_
        exact (k10 c1 c2 c3)
      · have c3 := Decidable.not_not.mp c3
        refine r_iconst f_43_55 (by decide) ?_
        refine r_goto (t := 60) f_43_56 rfl ?_
        refine r_iadd (u := x2 + 1) f_43_60 rfl (o11 c1 c2 c3) ?_
        refine r_istore_n (ls' := [vr f0, vi x1, vi (x2 + 1), vi x3, vi (rBy (rmC h f0) (h (f0 + 4) x3.toNat) (h (f0 + 5) x3.toNat).toNat), vi (rHo (rmC h f0) x3.toNat)]) f_43_61 (Nat.le_of_ble_eq_true rfl) rfl ?_
        refine r_iinc (v := x3) (w := x3 + 1) (ls' := [vr f0, vi x1, vi (x2 + 1), vi (x3 + 1), vi (rBy (rmC h f0) (h (f0 + 4) x3.toNat) (h (f0 + 5) x3.toNat).toNat), vi (rHo (rmC h f0) x3.toNat)]) f_43_62 rfl rfl (o12 c1 c2 c3) rfl ?_
        refine r_goto (t := 8) f_43_65 rfl ?_
        exact (k13 c1 c2 c3)

theorem c_Fl_boardsOf {Q : PQ} {h : HP} {x1 : Int} {f0 : Nat} (h_f0 : isF f0) (o1 : WR (rmC h f0)) (k : Q (some (vi (rBoards (rmC h f0) x1))) h) :
    Wp true i_Fl_boardsOf 0 [vr f0, vi x1, vr 9999, vr 9999, vr 9999, vr 9999] [] h Q := by
  have w := WC_0 o1
  have w2 := rByLine_rg o1 x1
  refine g_Fl_boardsOf_0 h_f0 (by first | exact o1 | exact o2 | omega) ?_
  have key : ∀ (d i : Nat) (s : Int) (j4 : AV) (j5 : AV), ((i : Int) + d = h f0 3 ∨ (d = 0 ∧ h f0 3 ≤ i)) → (-100 - i ≤ s ∧ s ≤ 100 + i) → Q (some (vi (s + sumF (fun i => if rHo (rmC h f0) i = rBy (rmC h f0) (rmC h f0 2 i) (rmC h f0 3 i).toNat then 0 else if rHo (rmC h f0) i = x1 then 1 else -1) d i))) h → Wp true i_Fl_boardsOf 8 [vr f0, vi x1, vi s, vi (i : Int), j4, j5] [] h Q := by
    intro d
    induction d with
    | zero =>
      intro i s j4 j5 e hi kk
      simp only [fld, sumF, Int.add_zero] at kk
      refine g_Fl_boardsOf_8 h_f0 ?_ ?_ ?_ ?_ ?_ ?_ ?_ ?_ ?_ ?_ ?_ ?_ ?_
      · intro c1; (try simp only [Int.toNat_natCast] at c1); first | (exfalso; omega) | (exact kk)
      · intro c1; (try simp only [Int.toNat_natCast] at c1); first | omega | (exfalso; omega) | exact ⟨by omega, by omega⟩ | (first | exact o1 | (simp only [Int.toNat_natCast]; omega))
      · intro c1; (try simp only [Int.toNat_natCast] at c1); first | omega | (exfalso; omega) | exact ⟨by omega, by omega⟩ | (first | exact o1 | (simp only [Int.toNat_natCast]; omega))
      · intro c1; (try simp only [Int.toNat_natCast] at c1); first | omega | (exfalso; omega) | exact ⟨by omega, by omega⟩ | (first | exact o1 | (simp only [Int.toNat_natCast]; omega))
      · intro c1; (try simp only [Int.toNat_natCast] at c1); first | omega | (exfalso; omega) | exact ⟨by omega, by omega⟩ | (first | exact o1 | (simp only [Int.toNat_natCast]; omega))
      · intro c1 c2; (try simp only [Int.toNat_natCast] at c1 c2); first | omega | (exfalso; omega) | exact ⟨by omega, by omega⟩ | (first | exact o1 | (simp only [Int.toNat_natCast]; omega))
      · intro c1 c2; (try simp only [Int.toNat_natCast] at c1 c2); first | (exfalso; omega) | (skip)
      · intro c1 c2 c3; (try simp only [Int.toNat_natCast] at c1 c2 c3); first | omega | (exfalso; omega) | exact ⟨by omega, by omega⟩ | (first | exact o1 | (simp only [Int.toNat_natCast]; omega))
      · intro c1 c2 c3; (try simp only [Int.toNat_natCast] at c1 c2 c3); first | omega | (exfalso; omega) | exact ⟨by omega, by omega⟩ | (first | exact o1 | (simp only [Int.toNat_natCast]; omega))
      · intro c1 c2 c3; (try simp only [Int.toNat_natCast] at c1 c2 c3); first | (exfalso; omega) | (skip)
      · intro c1 c2 c3; (try simp only [Int.toNat_natCast] at c1 c2 c3); first | omega | (exfalso; omega) | exact ⟨by omega, by omega⟩ | (first | exact o1 | (simp only [Int.toNat_natCast]; omega))
      · intro c1 c2 c3; (try simp only [Int.toNat_natCast] at c1 c2 c3); first | omega | (exfalso; omega) | exact ⟨by omega, by omega⟩ | (first | exact o1 | (simp only [Int.toNat_natCast]; omega))
      · intro c1 c2 c3; (try simp only [Int.toNat_natCast] at c1 c2 c3); first | (exfalso; omega) | (skip)
    | succ d ih =>
      intro i s j4 j5 e hi kk
      have t1 := WC_t o1 (t := i) (by omega) (by omega)
      obtain ⟨e1, e2, -⟩ := cR_t (h := h) (f := f0) (i := i) (by omega)
      simp only [Int.toNat_natCast] at t1
      refine g_Fl_boardsOf_8 h_f0 ?_ ?_ ?_ ?_ ?_ ?_ ?_ ?_ ?_ ?_ ?_ ?_ ?_
      · intro c1; (try simp only [Int.toNat_natCast] at c1); first | (exfalso; omega) | (skip)
      · intro c1; (try simp only [Int.toNat_natCast] at c1); first | omega | (exfalso; omega) | exact ⟨by omega, by omega⟩ | (first | exact o1 | (simp only [Int.toNat_natCast]; omega))
      · intro c1; (try simp only [Int.toNat_natCast] at c1); first | omega | (exfalso; omega) | exact ⟨by omega, by omega⟩ | (first | exact o1 | (simp only [Int.toNat_natCast]; omega))
      · intro c1; (try simp only [Int.toNat_natCast] at c1); first | omega | (exfalso; omega) | exact ⟨by omega, by omega⟩ | (first | exact o1 | (simp only [Int.toNat_natCast]; omega))
      · intro c1; (try simp only [Int.toNat_natCast] at c1); first | omega | (exfalso; omega) | exact ⟨by omega, by omega⟩ | (first | exact o1 | (simp only [Int.toNat_natCast]; omega))
      · intro c1 c2; (try simp only [Int.toNat_natCast] at c1 c2); first | omega | (exfalso; omega) | exact ⟨by omega, by omega⟩ | (first | exact o1 | (simp only [Int.toNat_natCast]; omega))
      · intro c1 c2; (try simp only [Int.toNat_natCast] at c1 c2); first | (exfalso; omega) | (refine ih (i + 1) _ _ _ (by omega) (by (try simp only [Int.toNat_natCast]); omega) (kv kk ?_); simp only [sumF, Int.toNat_natCast, e1, e2, if_pos c2] <;> omega)
      · intro c1 c2 c3; (try simp only [Int.toNat_natCast] at c1 c2 c3); first | omega | (exfalso; omega) | exact ⟨by omega, by omega⟩ | (first | exact o1 | (simp only [Int.toNat_natCast]; omega))
      · intro c1 c2 c3; (try simp only [Int.toNat_natCast] at c1 c2 c3); first | omega | (exfalso; omega) | exact ⟨by omega, by omega⟩ | (first | exact o1 | (simp only [Int.toNat_natCast]; omega))
      · intro c1 c2 c3; (try simp only [Int.toNat_natCast] at c1 c2 c3); first | (exfalso; omega) | (refine ih (i + 1) _ _ _ (by omega) (by (try simp only [Int.toNat_natCast]); omega) (kv kk ?_); simp only [sumF, Int.toNat_natCast, e1, e2, if_neg c2, if_neg c3] <;> omega)
      · intro c1 c2 c3; (try simp only [Int.toNat_natCast] at c1 c2 c3); first | omega | (exfalso; omega) | exact ⟨by omega, by omega⟩ | (first | exact o1 | (simp only [Int.toNat_natCast]; omega))
      · intro c1 c2 c3; (try simp only [Int.toNat_natCast] at c1 c2 c3); first | omega | (exfalso; omega) | exact ⟨by omega, by omega⟩ | (first | exact o1 | (simp only [Int.toNat_natCast]; omega))
      · intro c1 c2 c3; (try simp only [Int.toNat_natCast] at c1 c2 c3); first | (exfalso; omega) | (refine ih (i + 1) _ _ _ (by omega) (by (try simp only [Int.toNat_natCast]); omega) (kv kk ?_); simp only [sumF, Int.toNat_natCast, e1, e2, if_neg c2, if_pos c3] <;> omega)
  refine key (h f0 3).toNat 0 _ _ _ (by omega) (by omega) ?_
  exact k

theorem g_Fl_worthHeldBy_0 {Q : PQ} {h : HP} {x1 : Int} {x2 : Int} {f0 : Nat} (h_f0 : isF f0)
    (k1 : Wp true i_Fl_worthHeldBy 5 [vr f0, vi x1, vi x2, vi 0, vi 0] [] h Q) :
    Wp true i_Fl_worthHeldBy 0 [vr f0, vi x1, vi x2, vr 9999, vr 9999] [] h Q := by
  refine r_iconst f_44_0 (by decide) ?_
  refine r_istore_n (ls' := [vr f0, vi x1, vi x2, vi 0, vr 9999]) f_44_1 (Nat.le_of_ble_eq_true rfl) rfl ?_
  refine r_iconst f_44_2 (by decide) ?_
  refine r_istore (ls' := [vr f0, vi x1, vi x2, vi 0, vi 0]) f_44_3 (Nat.le_of_ble_eq_true rfl) rfl ?_
  exact k1

theorem g_Fl_worthHeldBy_5 {Q : PQ} {h : HP} {x1 : Int} {x2 : Int} {x3 : Int} {x4 : Int} {f0 : Nat} (h_f0 : isF f0)
    (k1 : h f0 3 ≤ x4 → Q (some (vi x3)) h)
    (o2 : ¬ h f0 3 ≤ x4 → WR (rmC h f0))
    (o3 : ¬ h f0 3 ≤ x4 → 0 ≤ x4 ∧ x4 < h f0 3)
    (o4 : ¬ h f0 3 ≤ x4 → ¬ rHo (rmC h f0) x4.toNat = x1 → -2147483648 ≤ x4 + 1 ∧ x4 + 1 ≤ 2147483647)
    (k5 : ¬ h f0 3 ≤ x4 → ¬ rHo (rmC h f0) x4.toNat = x1 → Wp true i_Fl_worthHeldBy 5 [vr f0, vi x1, vi x2, vi x3, vi (x4 + 1)] [] h Q)
    (o6 : ¬ h f0 3 ≤ x4 → rHo (rmC h f0) x4.toNat = x1 → x2 = 0 ∨ x2 = 1)
    (o7 : ¬ h f0 3 ≤ x4 → rHo (rmC h f0) x4.toNat = x1 → -2147483648 ≤ x3 + (rWo (rmC h f0) x2 x4.toNat) ∧ x3 + (rWo (rmC h f0) x2 x4.toNat) ≤ 2147483647)
    (o8 : ¬ h f0 3 ≤ x4 → rHo (rmC h f0) x4.toNat = x1 → -2147483648 ≤ x4 + 1 ∧ x4 + 1 ≤ 2147483647)
    (k9 : ¬ h f0 3 ≤ x4 → rHo (rmC h f0) x4.toNat = x1 → Wp true i_Fl_worthHeldBy 5 [vr f0, vi x1, vi x2, vi (x3 + (rWo (rmC h f0) x2 x4.toNat)), vi (x4 + 1)] [] h Q) :
    Wp true i_Fl_worthHeldBy 5 [vr f0, vi x1, vi x2, vi x3, vi x4] [] h Q := by
  refine r_iload (v := x4) f_44_5 rfl ?_
  refine r_aload_n (v := f0) f_44_7 rfl (F_n h_f0) ?_
  refine r_geti (v := h f0 3) f_44_8 (F_k h_f0) (by decide) rfl ?_
  refine r_br2 (t := 40) f_44_11 rfl cb_ge (fun c1 => ?_) (fun c1 => ?_)
  · refine r_iload_n (v := x3) f_44_40 rfl ?_
    exact r_reti f_44_41 rfl (k1 c1)
  · refine r_aload_n (v := f0) f_44_14 rfl (F_n h_f0) ?_
    refine r_iload (v := x4) f_44_15 rfl ?_
    refine r_callv (as := [vr f0, vi x4]) (st' := []) (ls0 := [vr f0, vi x4]) f_44_17 (by decide) rfl rfl (Nat.le_of_ble_eq_true rfl) (Nat.le_of_ble_eq_true rfl) ⟨_, _, rfl, (F_k h_f0)⟩ rfl ?_
    refine c_Fl_holderOf h_f0 (o2 c1) (o3 c1) ?_
    show Wp true i_Fl_worthHeldBy 20 [vr f0, vi x1, vi x2, vi x3, vi x4] [vi (rHo (rmC h f0) x4.toNat)] h Q
    refine r_iload_n (v := x1) f_44_20 rfl ?_
    refine r_br2 (t := 34) f_44_21 rfl cb_ne (fun c2 => ?_) (fun c2 => ?_)
    · refine r_iinc (v := x4) (w := x4 + 1) (ls' := [vr f0, vi x1, vi x2, vi x3, vi (x4 + 1)]) f_44_34 rfl rfl (o4 c1 c2) rfl ?_
      refine r_goto (t := 5) f_44_37 rfl ?_
      exact (k5 c1 c2)
    · have c2 := Decidable.not_not.mp c2
      refine r_iload_n (v := x3) f_44_24 rfl ?_
      refine r_aload_n (v := f0) f_44_25 rfl (F_n h_f0) ?_
      refine r_iload_n (v := x2) f_44_26 rfl ?_
      refine r_iload (v := x4) f_44_27 rfl ?_
      refine r_callv (as := [vr f0, vi x2, vi x4]) (st' := [vi x3]) (ls0 := [vr f0, vi x2, vi x4]) f_44_29 (by decide) rfl rfl (Nat.le_of_ble_eq_true rfl) (Nat.le_of_ble_eq_true rfl) ⟨_, _, rfl, (F_k h_f0)⟩ rfl ?_
      refine c_Fl_worthTo h_f0 (o2 c1) (o6 c1 c2) (o3 c1) ?_
      show Wp true i_Fl_worthHeldBy 32 [vr f0, vi x1, vi x2, vi x3, vi x4] [vi (rWo (rmC h f0) x2 x4.toNat), vi x3] h Q
      refine r_iadd (u := x3 + (rWo (rmC h f0) x2 x4.toNat)) f_44_32 rfl (o7 c1 c2) ?_
      refine r_istore_n (ls' := [vr f0, vi x1, vi x2, vi (x3 + (rWo (rmC h f0) x2 x4.toNat)), vi x4]) f_44_33 (Nat.le_of_ble_eq_true rfl) rfl ?_
      refine r_iinc (v := x4) (w := x4 + 1) (ls' := [vr f0, vi x1, vi x2, vi (x3 + (rWo (rmC h f0) x2 x4.toNat)), vi (x4 + 1)]) f_44_34 rfl rfl (o8 c1 c2) rfl ?_
      refine r_goto (t := 5) f_44_37 rfl ?_
      exact (k9 c1 c2)

theorem c_Fl_worthHeldBy {Q : PQ} {h : HP} {x1 : Int} {x2 : Int} {f0 : Nat} (h_f0 : isF f0) (o1 : WR (rmC h f0)) (o2 : x2 = 0 ∨ x2 = 1) (k : Q (some (vi (rVal (rmC h f0) x1 x2))) h) :
    Wp true i_Fl_worthHeldBy 0 [vr f0, vi x1, vi x2, vr 9999, vr 9999] [] h Q := by
  have w := WC_0 o1
  refine g_Fl_worthHeldBy_0 h_f0 ?_
  have key : ∀ (d i : Nat) (s : Int), ((i : Int) + d = h f0 3 ∨ (d = 0 ∧ h f0 3 ≤ i)) → (0 ≤ s ∧ s ≤ 99 * i) → Q (some (vi (s + sumF (fun i => if rHo (rmC h f0) i = x1 then rWo (rmC h f0) x2 i else 0) d i))) h → Wp true i_Fl_worthHeldBy 5 [vr f0, vi x1, vi x2, vi s, vi (i : Int)] [] h Q := by
    intro d
    induction d with
    | zero =>
      intro i s e hi kk
      simp only [fld, sumF, Int.add_zero] at kk
      refine g_Fl_worthHeldBy_5 h_f0 ?_ ?_ ?_ ?_ ?_ ?_ ?_ ?_ ?_
      · intro c1; (try simp only [Int.toNat_natCast] at c1); first | (exfalso; omega) | (exact kk)
      · intro c1; (try simp only [Int.toNat_natCast] at c1); first | omega | (exfalso; omega) | exact ⟨by omega, by omega⟩ | (first | exact o1 | exact o2 | (simp only [Int.toNat_natCast]; omega))
      · intro c1; (try simp only [Int.toNat_natCast] at c1); first | omega | (exfalso; omega) | exact ⟨by omega, by omega⟩ | (first | exact o1 | exact o2 | (simp only [Int.toNat_natCast]; omega))
      · intro c1 c2; (try simp only [Int.toNat_natCast] at c1 c2); first | omega | (exfalso; omega) | exact ⟨by omega, by omega⟩ | (first | exact o1 | exact o2 | (simp only [Int.toNat_natCast]; omega))
      · intro c1 c2; (try simp only [Int.toNat_natCast] at c1 c2); first | (exfalso; omega) | (skip)
      · intro c1 c2; (try simp only [Int.toNat_natCast] at c1 c2); first | omega | (exfalso; omega) | exact ⟨by omega, by omega⟩ | (first | exact o1 | exact o2 | (simp only [Int.toNat_natCast]; omega))
      · intro c1 c2; (try simp only [Int.toNat_natCast] at c1 c2); first | omega | (exfalso; omega) | exact ⟨by omega, by omega⟩ | (first | exact o1 | exact o2 | (simp only [Int.toNat_natCast]; omega))
      · intro c1 c2; (try simp only [Int.toNat_natCast] at c1 c2); first | omega | (exfalso; omega) | exact ⟨by omega, by omega⟩ | (first | exact o1 | exact o2 | (simp only [Int.toNat_natCast]; omega))
      · intro c1 c2; (try simp only [Int.toNat_natCast] at c1 c2); first | (exfalso; omega) | (skip)
    | succ d ih =>
      intro i s e hi kk
      have r1 := rWo_rg o1 (t := i) (show (i : Int) < h f0 3 by omega) x2
      refine g_Fl_worthHeldBy_5 h_f0 ?_ ?_ ?_ ?_ ?_ ?_ ?_ ?_ ?_
      · intro c1; (try simp only [Int.toNat_natCast] at c1); first | (exfalso; omega) | (skip)
      · intro c1; (try simp only [Int.toNat_natCast] at c1); first | omega | (exfalso; omega) | exact ⟨by omega, by omega⟩ | (first | exact o1 | exact o2 | (simp only [Int.toNat_natCast]; omega))
      · intro c1; (try simp only [Int.toNat_natCast] at c1); first | omega | (exfalso; omega) | exact ⟨by omega, by omega⟩ | (first | exact o1 | exact o2 | (simp only [Int.toNat_natCast]; omega))
      · intro c1 c2; (try simp only [Int.toNat_natCast] at c1 c2); first | omega | (exfalso; omega) | exact ⟨by omega, by omega⟩ | (first | exact o1 | exact o2 | (simp only [Int.toNat_natCast]; omega))
      · intro c1 c2; (try simp only [Int.toNat_natCast] at c1 c2); first | (exfalso; omega) | (refine ih (i + 1) _ (by omega) (by (try simp only [Int.toNat_natCast]); omega) (kv kk ?_); simp only [sumF, Int.toNat_natCast, if_neg c2] <;> omega)
      · intro c1 c2; (try simp only [Int.toNat_natCast] at c1 c2); first | omega | (exfalso; omega) | exact ⟨by omega, by omega⟩ | (first | exact o1 | exact o2 | (simp only [Int.toNat_natCast]; omega))
      · intro c1 c2; (try simp only [Int.toNat_natCast] at c1 c2); first | omega | (exfalso; omega) | exact ⟨by omega, by omega⟩ | (first | exact o1 | exact o2 | (simp only [Int.toNat_natCast]; omega))
      · intro c1 c2; (try simp only [Int.toNat_natCast] at c1 c2); first | omega | (exfalso; omega) | exact ⟨by omega, by omega⟩ | (first | exact o1 | exact o2 | (simp only [Int.toNat_natCast]; omega))
      · intro c1 c2; (try simp only [Int.toNat_natCast] at c1 c2); first | (exfalso; omega) | (refine ih (i + 1) _ (by omega) (by (try simp only [Int.toNat_natCast]); omega) (kv kk ?_); simp only [sumF, Int.toNat_natCast, if_pos c2] <;> omega)
  refine key (h f0 3).toNat 0 0 (by omega) (by omega) ?_
  rw [Int.zero_add]; exact k

theorem g_Fl_valueOf_0 {Q : PQ} {h : HP} {x1 : Int} {f0 : Nat} (h_f0 : isF f0)
    (o1 : WR (rmC h f0))
    (o2 : x1 = 0 ∨ x1 = 1)
    (k3 : Q (some (vi (rVal (rmC h f0) x1 x1))) h) :
    Wp true i_Fl_valueOf 0 [vr f0, vi x1] [] h Q := by
  refine r_aload_n (v := f0) f_45_0 rfl (F_n h_f0) ?_
  refine r_iload_n (v := x1) f_45_1 rfl ?_
  refine r_iload_n (v := x1) f_45_2 rfl ?_
  refine r_callv (as := [vr f0, vi x1, vi x1]) (st' := []) (ls0 := [vr f0, vi x1, vi x1, vr 9999, vr 9999]) f_45_3 (by decide) rfl rfl (Nat.le_of_ble_eq_true rfl) (Nat.le_of_ble_eq_true rfl) ⟨_, _, rfl, (F_k h_f0)⟩ rfl ?_
  refine c_Fl_worthHeldBy h_f0 o1 o2 ?_
  show Wp true i_Fl_valueOf 6 [vr f0, vi x1] [vi (rVal (rmC h f0) x1 x1)] h Q
  exact r_reti f_45_6 rfl k3

theorem c_Fl_valueOf {Q : PQ} {h : HP} {x1 : Int} {f0 : Nat} (h_f0 : isF f0) (o1 : WR (rmC h f0)) (o2 : x1 = 0 ∨ x1 = 1) (k : Q (some (vi (rVal (rmC h f0) x1 x1))) h) :
    Wp true i_Fl_valueOf 0 [vr f0, vi x1] [] h Q := by
  refine g_Fl_valueOf_0 h_f0 ?_ ?_ ?_
  · first | omega | (exfalso; omega) | exact ⟨by omega, by omega⟩ | (first | exact o1 | exact o2)
  · first | omega | (exfalso; omega) | exact ⟨by omega, by omega⟩ | (first | exact o1 | exact o2)
  · exact k

theorem g_Fl_envyOf_0 {Q : PQ} {h : HP} {x1 : Int} {f0 : Nat} (h_f0 : isF f0)
    (o1 : -2147483648 ≤ 1 - x1 ∧ 1 - x1 ≤ 2147483647)
    (o2 : WR (rmC h f0))
    (o3 : x1 = 0 ∨ x1 = 1)
    (o4 : -2147483648 ≤ (rVal (rmC h f0) (1 - x1) x1) - (rVal (rmC h f0) x1 x1) ∧ (rVal (rmC h f0) (1 - x1) x1) - (rVal (rmC h f0) x1 x1) ≤ 2147483647)
    (k5 : Q (some (vi ((rVal (rmC h f0) (1 - x1) x1) - (rVal (rmC h f0) x1 x1)))) h) :
    Wp true i_Fl_envyOf 0 [vr f0, vi x1] [] h Q := by
  refine r_aload_n (v := f0) f_46_0 rfl (F_n h_f0) ?_
  refine r_iconst f_46_1 (by decide) ?_
  refine r_iload_n (v := x1) f_46_2 rfl ?_
  refine r_isub (u := 1 - x1) f_46_3 rfl o1 ?_
  refine r_iload_n (v := x1) f_46_4 rfl ?_
  refine r_callv (as := [vr f0, vi (1 - x1), vi x1]) (st' := []) (ls0 := [vr f0, vi (1 - x1), vi x1, vr 9999, vr 9999]) f_46_5 (by decide) rfl rfl (Nat.le_of_ble_eq_true rfl) (Nat.le_of_ble_eq_true rfl) ⟨_, _, rfl, (F_k h_f0)⟩ rfl ?_
  refine c_Fl_worthHeldBy h_f0 o2 o3 ?_
  show Wp true i_Fl_envyOf 8 [vr f0, vi x1] [vi (rVal (rmC h f0) (1 - x1) x1)] h Q
  refine r_aload_n (v := f0) f_46_8 rfl (F_n h_f0) ?_
  refine r_iload_n (v := x1) f_46_9 rfl ?_
  refine r_iload_n (v := x1) f_46_10 rfl ?_
  refine r_callv (as := [vr f0, vi x1, vi x1]) (st' := [vi (rVal (rmC h f0) (1 - x1) x1)]) (ls0 := [vr f0, vi x1, vi x1, vr 9999, vr 9999]) f_46_11 (by decide) rfl rfl (Nat.le_of_ble_eq_true rfl) (Nat.le_of_ble_eq_true rfl) ⟨_, _, rfl, (F_k h_f0)⟩ rfl ?_
  refine c_Fl_worthHeldBy h_f0 o2 o3 ?_
  show Wp true i_Fl_envyOf 14 [vr f0, vi x1] [vi (rVal (rmC h f0) x1 x1), vi (rVal (rmC h f0) (1 - x1) x1)] h Q
  refine r_isub (u := (rVal (rmC h f0) (1 - x1) x1) - (rVal (rmC h f0) x1 x1)) f_46_14 rfl o4 ?_
  exact r_reti f_46_15 rfl k5

theorem c_Fl_envyOf {Q : PQ} {h : HP} {x1 : Int} {f0 : Nat} (h_f0 : isF f0) (o1 : WR (rmC h f0)) (o2 : x1 = 0 ∨ x1 = 1) (k : Q (some (vi (rVal (rmC h f0) (1 - x1) x1 - rVal (rmC h f0) x1 x1))) h) :
    Wp true i_Fl_envyOf 0 [vr f0, vi x1] [] h Q := by
  have a := rVal_rg o1 (1 - x1) x1
  have b := rVal_rg o1 x1 x1
  refine g_Fl_envyOf_0 h_f0 ?_ ?_ ?_ ?_ ?_
  · first | omega | (exfalso; omega) | exact ⟨by omega, by omega⟩ | (first | exact o1 | exact o2)
  · first | omega | (exfalso; omega) | exact ⟨by omega, by omega⟩ | (first | exact o1 | exact o2)
  · first | omega | (exfalso; omega) | exact ⟨by omega, by omega⟩ | (first | exact o1 | exact o2)
  · first | omega | (exfalso; omega) | exact ⟨by omega, by omega⟩ | (first | exact o1 | exact o2)
  · exact k

theorem g_Fl_worthOfAll_0 {Q : PQ} {h : HP} {x1 : Int} {f0 : Nat} (h_f0 : isF f0)
    (o1 : WR (rmC h f0))
    (o2 : x1 = 0 ∨ x1 = 1)
    (o3 : -2147483648 ≤ (rVal (rmC h f0) 0 x1) + (rVal (rmC h f0) 1 x1) ∧ (rVal (rmC h f0) 0 x1) + (rVal (rmC h f0) 1 x1) ≤ 2147483647)
    (k4 : Q (some (vi ((rVal (rmC h f0) 0 x1) + (rVal (rmC h f0) 1 x1)))) h) :
    Wp true i_Fl_worthOfAll 0 [vr f0, vi x1] [] h Q := by
  refine r_aload_n (v := f0) f_47_0 rfl (F_n h_f0) ?_
  refine r_iconst f_47_1 (by decide) ?_
  refine r_iload_n (v := x1) f_47_2 rfl ?_
  refine r_callv (as := [vr f0, vi 0, vi x1]) (st' := []) (ls0 := [vr f0, vi 0, vi x1, vr 9999, vr 9999]) f_47_3 (by decide) rfl rfl (Nat.le_of_ble_eq_true rfl) (Nat.le_of_ble_eq_true rfl) ⟨_, _, rfl, (F_k h_f0)⟩ rfl ?_
  refine c_Fl_worthHeldBy h_f0 o1 o2 ?_
  show Wp true i_Fl_worthOfAll 6 [vr f0, vi x1] [vi (rVal (rmC h f0) 0 x1)] h Q
  refine r_aload_n (v := f0) f_47_6 rfl (F_n h_f0) ?_
  refine r_iconst f_47_7 (by decide) ?_
  refine r_iload_n (v := x1) f_47_8 rfl ?_
  refine r_callv (as := [vr f0, vi 1, vi x1]) (st' := [vi (rVal (rmC h f0) 0 x1)]) (ls0 := [vr f0, vi 1, vi x1, vr 9999, vr 9999]) f_47_9 (by decide) rfl rfl (Nat.le_of_ble_eq_true rfl) (Nat.le_of_ble_eq_true rfl) ⟨_, _, rfl, (F_k h_f0)⟩ rfl ?_
  refine c_Fl_worthHeldBy h_f0 o1 o2 ?_
  show Wp true i_Fl_worthOfAll 12 [vr f0, vi x1] [vi (rVal (rmC h f0) 1 x1), vi (rVal (rmC h f0) 0 x1)] h Q
  refine r_iadd (u := (rVal (rmC h f0) 0 x1) + (rVal (rmC h f0) 1 x1)) f_47_12 rfl o3 ?_
  exact r_reti f_47_13 rfl k4

theorem c_Fl_worthOfAll {Q : PQ} {h : HP} {x1 : Int} {f0 : Nat} (h_f0 : isF f0) (o1 : WR (rmC h f0)) (o2 : x1 = 0 ∨ x1 = 1) (k : Q (some (vi (rVal (rmC h f0) 0 x1 + rVal (rmC h f0) 1 x1))) h) :
    Wp true i_Fl_worthOfAll 0 [vr f0, vi x1] [] h Q := by
  have a := rVal_rg o1 0 x1
  have b := rVal_rg o1 1 x1
  refine g_Fl_worthOfAll_0 h_f0 ?_ ?_ ?_ ?_
  · first | omega | (exfalso; omega) | exact ⟨by omega, by omega⟩ | (first | exact o1 | exact o2)
  · first | omega | (exfalso; omega) | exact ⟨by omega, by omega⟩ | (first | exact o1 | exact o2)
  · first | omega | (exfalso; omega) | exact ⟨by omega, by omega⟩ | (first | exact o1 | exact o2)
  · exact k

theorem g_Fl_thingsOf_0 {Q : PQ} {h : HP} {x1 : Int} {f0 : Nat} (h_f0 : isF f0)
    (k1 : Wp true i_Fl_thingsOf 4 [vr f0, vi x1, vi 0, vi 0] [] h Q) :
    Wp true i_Fl_thingsOf 0 [vr f0, vi x1, vr 9999, vr 9999] [] h Q := by
  refine r_iconst f_48_0 (by decide) ?_
  refine r_istore_n (ls' := [vr f0, vi x1, vi 0, vr 9999]) f_48_1 (Nat.le_of_ble_eq_true rfl) rfl ?_
  refine r_iconst f_48_2 (by decide) ?_
  refine r_istore_n (ls' := [vr f0, vi x1, vi 0, vi 0]) f_48_3 (Nat.le_of_ble_eq_true rfl) rfl ?_
  exact k1

theorem g_Fl_thingsOf_4 {Q : PQ} {h : HP} {x1 : Int} {x2 : Int} {x3 : Int} {f0 : Nat} (h_f0 : isF f0)
    (k1 : h f0 3 ≤ x3 → Q (some (vi x2)) h)
    (o2 : ¬ h f0 3 ≤ x3 → WR (rmC h f0))
    (o3 : ¬ h f0 3 ≤ x3 → 0 ≤ x3 ∧ x3 < h f0 3)
    (o4 : ¬ h f0 3 ≤ x3 → ¬ rHo (rmC h f0) x3.toNat = x1 → -2147483648 ≤ x3 + 1 ∧ x3 + 1 ≤ 2147483647)
    (k5 : ¬ h f0 3 ≤ x3 → ¬ rHo (rmC h f0) x3.toNat = x1 → Wp true i_Fl_thingsOf 4 [vr f0, vi x1, vi x2, vi (x3 + 1)] [] h Q)
    (o6 : ¬ h f0 3 ≤ x3 → rHo (rmC h f0) x3.toNat = x1 → -2147483648 ≤ x3 + 1 ∧ x3 + 1 ≤ 2147483647)
    (k7 : ¬ h f0 3 ≤ x3 → rHo (rmC h f0) x3.toNat = x1 → Wp true i_Fl_thingsOf 4 [vr f0, vi x1, vi (o_or x2 (o_shl 1 x3)), vi (x3 + 1)] [] h Q) :
    Wp true i_Fl_thingsOf 4 [vr f0, vi x1, vi x2, vi x3] [] h Q := by
  refine r_iload_n (v := x3) f_48_4 rfl ?_
  refine r_aload_n (v := f0) f_48_5 rfl (F_n h_f0) ?_
  refine r_geti (v := h f0 3) f_48_6 (F_k h_f0) (by decide) rfl ?_
  refine r_br2 (t := 33) f_48_9 rfl cb_ge (fun c1 => ?_) (fun c1 => ?_)
  · refine r_iload_n (v := x2) f_48_33 rfl ?_
    exact r_reti f_48_34 rfl (k1 c1)
  · refine r_aload_n (v := f0) f_48_12 rfl (F_n h_f0) ?_
    refine r_iload_n (v := x3) f_48_13 rfl ?_
    refine r_callv (as := [vr f0, vi x3]) (st' := []) (ls0 := [vr f0, vi x3]) f_48_14 (by decide) rfl rfl (Nat.le_of_ble_eq_true rfl) (Nat.le_of_ble_eq_true rfl) ⟨_, _, rfl, (F_k h_f0)⟩ rfl ?_
    refine c_Fl_holderOf h_f0 (o2 c1) (o3 c1) ?_
    show Wp true i_Fl_thingsOf 17 [vr f0, vi x1, vi x2, vi x3] [vi (rHo (rmC h f0) x3.toNat)] h Q
    refine r_iload_n (v := x1) f_48_17 rfl ?_
    refine r_br2 (t := 27) f_48_18 rfl cb_ne (fun c2 => ?_) (fun c2 => ?_)
    · refine r_iinc (v := x3) (w := x3 + 1) (ls' := [vr f0, vi x1, vi x2, vi (x3 + 1)]) f_48_27 rfl rfl (o4 c1 c2) rfl ?_
      refine r_goto (t := 4) f_48_30 rfl ?_
      exact (k5 c1 c2)
    · have c2 := Decidable.not_not.mp c2
      refine r_iload_n (v := x2) f_48_21 rfl ?_
      refine r_iconst f_48_22 (by decide) ?_
      refine r_iload_n (v := x3) f_48_23 rfl ?_
      refine r_ishl f_48_24 ?_
      refine r_ior f_48_25 ?_
      refine r_istore_n (ls' := [vr f0, vi x1, vi (o_or x2 (o_shl 1 x3)), vi x3]) f_48_26 (Nat.le_of_ble_eq_true rfl) rfl ?_
      refine r_iinc (v := x3) (w := x3 + 1) (ls' := [vr f0, vi x1, vi (o_or x2 (o_shl 1 x3)), vi (x3 + 1)]) f_48_27 rfl rfl (o6 c1 c2) rfl ?_
      refine r_goto (t := 4) f_48_30 rfl ?_
      exact (k7 c1 c2)

theorem c_Fl_thingsOf {Q : PQ} {h : HP} {x1 : Int} {f0 : Nat} (h_f0 : isF f0) (o1 : WR (rmC h f0)) (k : Q (some (vi (rSet (rmC h f0) x1))) h) :
    Wp true i_Fl_thingsOf 0 [vr f0, vi x1, vr 9999, vr 9999] [] h Q := by
  have w := WC_0 o1
  refine g_Fl_thingsOf_0 h_f0 ?_
  have key : ∀ (d i : Nat) (s : Int), ((i : Int) + d = h f0 3 ∨ (d = 0 ∧ h f0 3 ≤ i)) → (True) → Q (some (vi (fld (fun i s => if rHo (rmC h f0) i = x1 then o_or s (o_shl 1 i) else s) d i s))) h → Wp true i_Fl_thingsOf 4 [vr f0, vi x1, vi s, vi (i : Int)] [] h Q := by
    intro d
    induction d with
    | zero =>
      intro i s e hi kk
      simp only [fld, sumF, Int.add_zero] at kk
      refine g_Fl_thingsOf_4 h_f0 ?_ ?_ ?_ ?_ ?_ ?_ ?_
      · intro c1; (try simp only [Int.toNat_natCast] at c1); first | (exfalso; omega) | (exact kk)
      · intro c1; (try simp only [Int.toNat_natCast] at c1); first | omega | (exfalso; omega) | exact ⟨by omega, by omega⟩ | (first | exact o1 | assumption)
      · intro c1; (try simp only [Int.toNat_natCast] at c1); first | omega | (exfalso; omega) | exact ⟨by omega, by omega⟩ | (first | exact o1 | assumption)
      · intro c1 c2; (try simp only [Int.toNat_natCast] at c1 c2); first | omega | (exfalso; omega) | exact ⟨by omega, by omega⟩ | (first | exact o1 | assumption)
      · intro c1 c2; (try simp only [Int.toNat_natCast] at c1 c2); first | (exfalso; omega) | (skip)
      · intro c1 c2; (try simp only [Int.toNat_natCast] at c1 c2); first | omega | (exfalso; omega) | exact ⟨by omega, by omega⟩ | (first | exact o1 | assumption)
      · intro c1 c2; (try simp only [Int.toNat_natCast] at c1 c2); first | (exfalso; omega) | (skip)
    | succ d ih =>
      intro i s e hi kk
      refine g_Fl_thingsOf_4 h_f0 ?_ ?_ ?_ ?_ ?_ ?_ ?_
      · intro c1; (try simp only [Int.toNat_natCast] at c1); first | (exfalso; omega) | (skip)
      · intro c1; (try simp only [Int.toNat_natCast] at c1); first | omega | (exfalso; omega) | exact ⟨by omega, by omega⟩ | (first | exact o1 | assumption)
      · intro c1; (try simp only [Int.toNat_natCast] at c1); first | omega | (exfalso; omega) | exact ⟨by omega, by omega⟩ | (first | exact o1 | assumption)
      · intro c1 c2; (try simp only [Int.toNat_natCast] at c1 c2); first | omega | (exfalso; omega) | exact ⟨by omega, by omega⟩ | (first | exact o1 | assumption)
      · intro c1 c2; (try simp only [Int.toNat_natCast] at c1 c2); first | (exfalso; omega) | (simp only [fld, if_neg c2] at kk; exact ih (i + 1) _ (by omega) (trivial) kk)
      · intro c1 c2; (try simp only [Int.toNat_natCast] at c1 c2); first | omega | (exfalso; omega) | exact ⟨by omega, by omega⟩ | (first | exact o1 | assumption)
      · intro c1 c2; (try simp only [Int.toNat_natCast] at c1 c2); first | (exfalso; omega) | (simp only [fld, if_pos c2] at kk; exact ih (i + 1) _ (by omega) (trivial) kk)
  refine key (h f0 3).toNat 0 0 (by omega) (trivial) ?_
  exact k

theorem g_Fl_chalkDrawn_0 {Q : PQ} {h : HP}  {f0 : Nat} (h_f0 : isF f0)
    (k1 : Wp true i_Fl_chalkDrawn 7 [vr f0, vi (h f0 1), vi 1] [] h Q) :
    Wp true i_Fl_chalkDrawn 0 [vr f0, vr 9999, vr 9999] [] h Q := by
  refine r_aload_n (v := f0) f_50_0 rfl (F_n h_f0) ?_
  refine r_geti (v := h f0 1) f_50_1 (F_k h_f0) (by decide) rfl ?_
  refine r_istore_n (ls' := [vr f0, vi (h f0 1), vr 9999]) f_50_4 (Nat.le_of_ble_eq_true rfl) rfl ?_
  refine r_iconst f_50_5 (by decide) ?_
  refine r_istore_n (ls' := [vr f0, vi (h f0 1), vi 1]) f_50_6 (Nat.le_of_ble_eq_true rfl) rfl ?_
  exact k1

theorem g_Fl_chalkDrawn_7 {Q : PQ} {h : HP} {x1 : Int} {x2 : Int} {f0 : Nat} (h_f0 : isF f0)
    (k1 : h f0 1 ≤ x2 → Q (some (vi x1)) h)
    (o2 : ¬ h f0 1 ≤ x2 → WR (rmC h f0))
    (o3 : ¬ h f0 1 ≤ x2 → 1 ≤ x2 ∧ x2 < h f0 1)
    (o4 : ¬ h f0 1 ≤ x2 → -2147483648 ≤ x1 + (rBend (rmC h f0) x2.toNat) ∧ x1 + (rBend (rmC h f0) x2.toNat) ≤ 2147483647)
    (o5 : ¬ h f0 1 ≤ x2 → -2147483648 ≤ x2 + 1 ∧ x2 + 1 ≤ 2147483647)
    (k6 : ¬ h f0 1 ≤ x2 → Wp true i_Fl_chalkDrawn 7 [vr f0, vi (x1 + (rBend (rmC h f0) x2.toNat)), vi (x2 + 1)] [] h Q) :
    Wp true i_Fl_chalkDrawn 7 [vr f0, vi x1, vi x2] [] h Q := by
  refine r_iload_n (v := x2) f_50_7 rfl ?_
  refine r_aload_n (v := f0) f_50_8 rfl (F_n h_f0) ?_
  refine r_geti (v := h f0 1) f_50_9 (F_k h_f0) (by decide) rfl ?_
  refine r_br2 (t := 29) f_50_12 rfl cb_ge (fun c1 => ?_) (fun c1 => ?_)
  · refine r_iload_n (v := x1) f_50_29 rfl ?_
    exact r_reti f_50_30 rfl (k1 c1)
  · refine r_iload_n (v := x1) f_50_15 rfl ?_
    refine r_aload_n (v := f0) f_50_16 rfl (F_n h_f0) ?_
    refine r_iload_n (v := x2) f_50_17 rfl ?_
    refine r_callv (as := [vr f0, vi x2]) (st' := [vi x1]) (ls0 := [vr f0, vi x2]) f_50_18 (by decide) rfl rfl (Nat.le_of_ble_eq_true rfl) (Nat.le_of_ble_eq_true rfl) ⟨_, _, rfl, (F_k h_f0)⟩ rfl ?_
    refine c_Fl_bendAt h_f0 (o2 c1) (o3 c1) ?_
    show Wp true i_Fl_chalkDrawn 21 [vr f0, vi x1, vi x2] [vi (rBend (rmC h f0) x2.toNat), vi x1] h Q
    refine r_iadd (u := x1 + (rBend (rmC h f0) x2.toNat)) f_50_21 rfl (o4 c1) ?_
    refine r_istore_n (ls' := [vr f0, vi (x1 + (rBend (rmC h f0) x2.toNat)), vi x2]) f_50_22 (Nat.le_of_ble_eq_true rfl) rfl ?_
    refine r_iinc (v := x2) (w := x2 + 1) (ls' := [vr f0, vi (x1 + (rBend (rmC h f0) x2.toNat)), vi (x2 + 1)]) f_50_23 rfl rfl (o5 c1) rfl ?_
    refine r_goto (t := 7) f_50_26 rfl ?_
    exact (k6 c1)

theorem c_Fl_chalkDrawn {Q : PQ} {h : HP} {f0 : Nat} (h_f0 : isF f0) (o1 : WR (rmC h f0)) (k : Q (some (vi (rChalk (rmC h f0)))) h) :
    Wp true i_Fl_chalkDrawn 0 [vr f0, vr 9999, vr 9999] [] h Q := by
  have w := WC_0 o1
  refine g_Fl_chalkDrawn_0 h_f0 ?_
  have key : ∀ (d i : Nat) (s : Int), ((i : Int) + d = h f0 1 ∨ (d = 0 ∧ h f0 1 ≤ i)) → (1 ≤ i ∧ 0 ≤ s ∧ s ≤ 7 + 9 * i) → Q (some (vi (s + sumF (fun r => rBend (rmC h f0) r) d i))) h → Wp true i_Fl_chalkDrawn 7 [vr f0, vi s, vi (i : Int)] [] h Q := by
    intro d
    induction d with
    | zero =>
      intro i s e hi kk
      simp only [fld, sumF, Int.add_zero] at kk
      refine g_Fl_chalkDrawn_7 h_f0 ?_ ?_ ?_ ?_ ?_ ?_
      · intro c1; (try simp only [Int.toNat_natCast] at c1); first | (exfalso; omega) | (exact kk)
      · intro c1; (try simp only [Int.toNat_natCast] at c1); first | omega | (exfalso; omega) | exact ⟨by omega, by omega⟩ | (first | exact o1 | (simp only [Int.toNat_natCast]; omega))
      · intro c1; (try simp only [Int.toNat_natCast] at c1); first | omega | (exfalso; omega) | exact ⟨by omega, by omega⟩ | (first | exact o1 | (simp only [Int.toNat_natCast]; omega))
      · intro c1; (try simp only [Int.toNat_natCast] at c1); first | omega | (exfalso; omega) | exact ⟨by omega, by omega⟩ | (first | exact o1 | (simp only [Int.toNat_natCast]; omega))
      · intro c1; (try simp only [Int.toNat_natCast] at c1); first | omega | (exfalso; omega) | exact ⟨by omega, by omega⟩ | (first | exact o1 | (simp only [Int.toNat_natCast]; omega))
      · intro c1; (try simp only [Int.toNat_natCast] at c1); first | (exfalso; omega) | (skip)
    | succ d ih =>
      intro i s e hi kk
      have r1 := rBend_rg o1 (r := i) (show (i : Int) < h f0 1 by omega)
      refine g_Fl_chalkDrawn_7 h_f0 ?_ ?_ ?_ ?_ ?_ ?_
      · intro c1; (try simp only [Int.toNat_natCast] at c1); first | (exfalso; omega) | (skip)
      · intro c1; (try simp only [Int.toNat_natCast] at c1); first | omega | (exfalso; omega) | exact ⟨by omega, by omega⟩ | (first | exact o1 | (simp only [Int.toNat_natCast]; omega))
      · intro c1; (try simp only [Int.toNat_natCast] at c1); first | omega | (exfalso; omega) | exact ⟨by omega, by omega⟩ | (first | exact o1 | (simp only [Int.toNat_natCast]; omega))
      · intro c1; (try simp only [Int.toNat_natCast] at c1); first | omega | (exfalso; omega) | exact ⟨by omega, by omega⟩ | (first | exact o1 | (simp only [Int.toNat_natCast]; omega))
      · intro c1; (try simp only [Int.toNat_natCast] at c1); first | omega | (exfalso; omega) | exact ⟨by omega, by omega⟩ | (first | exact o1 | (simp only [Int.toNat_natCast]; omega))
      · intro c1; (try simp only [Int.toNat_natCast] at c1); first | (exfalso; omega) | (refine ih (i + 1) _ (by omega) (by (try simp only [Int.toNat_natCast]); omega) (kv kk ?_); simp only [sumF, Int.toNat_natCast] <;> omega)
  refine key (h f0 1 - 1).toNat 1 _ (by omega) (by omega) ?_
  exact k

theorem g_Fl_bulgingRows_0 {Q : PQ} {h : HP}  {f0 : Nat} (h_f0 : isF f0)
    (k1 : Wp true i_Fl_bulgingRows 4 [vr f0, vi 0, vi 1] [] h Q) :
    Wp true i_Fl_bulgingRows 0 [vr f0, vr 9999, vr 9999] [] h Q := by
  refine r_iconst f_51_0 (by decide) ?_
  refine r_istore_n (ls' := [vr f0, vi 0, vr 9999]) f_51_1 (Nat.le_of_ble_eq_true rfl) rfl ?_
  refine r_iconst f_51_2 (by decide) ?_
  refine r_istore_n (ls' := [vr f0, vi 0, vi 1]) f_51_3 (Nat.le_of_ble_eq_true rfl) rfl ?_
  exact k1

theorem g_Fl_bulgingRows_4 {Q : PQ} {h : HP} {x1 : Int} {x2 : Int} {f0 : Nat} (h_f0 : isF f0)
    (k1 : h f0 1 ≤ x2 → Q (some (vi x1)) h)
    (o2 : ¬ h f0 1 ≤ x2 → WR (rmC h f0))
    (o3 : ¬ h f0 1 ≤ x2 → 1 ≤ x2 ∧ x2 < h f0 1)
    (o4 : ¬ h f0 1 ≤ x2 → rBend (rmC h f0) x2.toNat ≤ h f0 2 → -2147483648 ≤ x2 + 1 ∧ x2 + 1 ≤ 2147483647)
    (k5 : ¬ h f0 1 ≤ x2 → rBend (rmC h f0) x2.toNat ≤ h f0 2 → Wp true i_Fl_bulgingRows 4 [vr f0, vi x1, vi (x2 + 1)] [] h Q)
    (o6 : ¬ h f0 1 ≤ x2 → ¬ rBend (rmC h f0) x2.toNat ≤ h f0 2 → -2147483648 ≤ x1 + 1 ∧ x1 + 1 ≤ 2147483647)
    (o7 : ¬ h f0 1 ≤ x2 → ¬ rBend (rmC h f0) x2.toNat ≤ h f0 2 → -2147483648 ≤ x2 + 1 ∧ x2 + 1 ≤ 2147483647)
    (k8 : ¬ h f0 1 ≤ x2 → ¬ rBend (rmC h f0) x2.toNat ≤ h f0 2 → Wp true i_Fl_bulgingRows 4 [vr f0, vi (x1 + 1), vi (x2 + 1)] [] h Q) :
    Wp true i_Fl_bulgingRows 4 [vr f0, vi x1, vi x2] [] h Q := by
  refine r_iload_n (v := x2) f_51_4 rfl ?_
  refine r_aload_n (v := f0) f_51_5 rfl (F_n h_f0) ?_
  refine r_geti (v := h f0 1) f_51_6 (F_k h_f0) (by decide) rfl ?_
  refine r_br2 (t := 33) f_51_9 rfl cb_ge (fun c1 => ?_) (fun c1 => ?_)
  · refine r_iload_n (v := x1) f_51_33 rfl ?_
    exact r_reti f_51_34 rfl (k1 c1)
  · refine r_aload_n (v := f0) f_51_12 rfl (F_n h_f0) ?_
    refine r_iload_n (v := x2) f_51_13 rfl ?_
    refine r_callv (as := [vr f0, vi x2]) (st' := []) (ls0 := [vr f0, vi x2]) f_51_14 (by decide) rfl rfl (Nat.le_of_ble_eq_true rfl) (Nat.le_of_ble_eq_true rfl) ⟨_, _, rfl, (F_k h_f0)⟩ rfl ?_
    refine c_Fl_bendAt h_f0 (o2 c1) (o3 c1) ?_
    show Wp true i_Fl_bulgingRows 17 [vr f0, vi x1, vi x2] [vi (rBend (rmC h f0) x2.toNat)] h Q
    refine r_aload_n (v := f0) f_51_17 rfl (F_n h_f0) ?_
    refine r_geti (v := h f0 2) f_51_18 (F_k h_f0) (by decide) rfl ?_
    refine r_br2 (t := 27) f_51_21 rfl cb_le (fun c2 => ?_) (fun c2 => ?_)
    · refine r_iinc (v := x2) (w := x2 + 1) (ls' := [vr f0, vi x1, vi (x2 + 1)]) f_51_27 rfl rfl (o4 c1 c2) rfl ?_
      refine r_goto (t := 4) f_51_30 rfl ?_
      exact (k5 c1 c2)
    · refine r_iinc (v := x1) (w := x1 + 1) (ls' := [vr f0, vi (x1 + 1), vi x2]) f_51_24 rfl rfl (o6 c1 c2) rfl ?_
      refine r_iinc (v := x2) (w := x2 + 1) (ls' := [vr f0, vi (x1 + 1), vi (x2 + 1)]) f_51_27 rfl rfl (o7 c1 c2) rfl ?_
      refine r_goto (t := 4) f_51_30 rfl ?_
      exact (k8 c1 c2)

theorem c_Fl_bulgingRows {Q : PQ} {h : HP} {f0 : Nat} (h_f0 : isF f0) (o1 : WR (rmC h f0)) (k : Q (some (vi (rBulge (rmC h f0)))) h) :
    Wp true i_Fl_bulgingRows 0 [vr f0, vr 9999, vr 9999] [] h Q := by
  have w := WC_0 o1
  refine g_Fl_bulgingRows_0 h_f0 ?_
  have key : ∀ (d i : Nat) (s : Int), ((i : Int) + d = h f0 1 ∨ (d = 0 ∧ h f0 1 ≤ i)) → (1 ≤ i ∧ 0 ≤ s ∧ s ≤ i) → Q (some (vi (s + sumF (fun r => if rBend (rmC h f0) r ≤ rmC h f0 0 2 then 0 else 1) d i))) h → Wp true i_Fl_bulgingRows 4 [vr f0, vi s, vi (i : Int)] [] h Q := by
    intro d
    induction d with
    | zero =>
      intro i s e hi kk
      simp only [fld, sumF, Int.add_zero] at kk
      refine g_Fl_bulgingRows_4 h_f0 ?_ ?_ ?_ ?_ ?_ ?_ ?_ ?_
      · intro c1; (try simp only [Int.toNat_natCast] at c1); first | (exfalso; omega) | (exact kk)
      · intro c1; (try simp only [Int.toNat_natCast] at c1); first | omega | (exfalso; omega) | exact ⟨by omega, by omega⟩ | (first | exact o1 | assumption)
      · intro c1; (try simp only [Int.toNat_natCast] at c1); first | omega | (exfalso; omega) | exact ⟨by omega, by omega⟩ | (first | exact o1 | assumption)
      · intro c1 c2; (try simp only [Int.toNat_natCast] at c1 c2); first | omega | (exfalso; omega) | exact ⟨by omega, by omega⟩ | (first | exact o1 | assumption)
      · intro c1 c2; (try simp only [Int.toNat_natCast] at c1 c2); first | (exfalso; omega) | (skip)
      · intro c1 c2; (try simp only [Int.toNat_natCast] at c1 c2); first | omega | (exfalso; omega) | exact ⟨by omega, by omega⟩ | (first | exact o1 | assumption)
      · intro c1 c2; (try simp only [Int.toNat_natCast] at c1 c2); first | omega | (exfalso; omega) | exact ⟨by omega, by omega⟩ | (first | exact o1 | assumption)
      · intro c1 c2; (try simp only [Int.toNat_natCast] at c1 c2); first | (exfalso; omega) | (skip)
    | succ d ih =>
      intro i s e hi kk
      refine g_Fl_bulgingRows_4 h_f0 ?_ ?_ ?_ ?_ ?_ ?_ ?_ ?_
      · intro c1; (try simp only [Int.toNat_natCast] at c1); first | (exfalso; omega) | (skip)
      · intro c1; (try simp only [Int.toNat_natCast] at c1); first | omega | (exfalso; omega) | exact ⟨by omega, by omega⟩ | (first | exact o1 | assumption)
      · intro c1; (try simp only [Int.toNat_natCast] at c1); first | omega | (exfalso; omega) | exact ⟨by omega, by omega⟩ | (first | exact o1 | assumption)
      · intro c1 c2; (try simp only [Int.toNat_natCast] at c1 c2); first | omega | (exfalso; omega) | exact ⟨by omega, by omega⟩ | (first | exact o1 | assumption)
      · intro c1 c2; (try simp only [Int.toNat_natCast] at c1 c2); first | (exfalso; omega) | (refine ih (i + 1) _ (by omega) (by (try simp only [Int.toNat_natCast]); omega) (kv kk ?_); simp only [sumF, Int.toNat_natCast, (cR_0 h f0).2.2.1, if_pos c2] <;> omega)
      · intro c1 c2; (try simp only [Int.toNat_natCast] at c1 c2); first | omega | (exfalso; omega) | exact ⟨by omega, by omega⟩ | (first | exact o1 | assumption)
      · intro c1 c2; (try simp only [Int.toNat_natCast] at c1 c2); first | omega | (exfalso; omega) | exact ⟨by omega, by omega⟩ | (first | exact o1 | assumption)
      · intro c1 c2; (try simp only [Int.toNat_natCast] at c1 c2); first | (exfalso; omega) | (refine ih (i + 1) _ (by omega) (by (try simp only [Int.toNat_natCast]); omega) (kv kk ?_); simp only [sumF, Int.toNat_natCast, (cR_0 h f0).2.2.1, if_neg c2] <;> omega)
  refine key (h f0 1 - 1).toNat 1 0 (by omega) (by omega) ?_
  rw [Int.zero_add]; exact k

theorem g_Fl_strongestRow_0 {Q : PQ} {h : HP} {x1 : Int} {f0 : Nat} (h_f0 : isF f0)
    (k1 : Wp true i_Fl_strongestRow 4 [vr f0, vi x1, vi (-1), vi 0] [] h Q) :
    Wp true i_Fl_strongestRow 0 [vr f0, vi x1, vr 9999, vr 9999] [] h Q := by
  refine r_iconst f_52_0 (by decide) ?_
  refine r_istore_n (ls' := [vr f0, vi x1, vi (-1), vr 9999]) f_52_1 (Nat.le_of_ble_eq_true rfl) rfl ?_
  refine r_iconst f_52_2 (by decide) ?_
  refine r_istore_n (ls' := [vr f0, vi x1, vi (-1), vi 0]) f_52_3 (Nat.le_of_ble_eq_true rfl) rfl ?_
  exact k1

theorem g_Fl_strongestRow_4 {Q : PQ} {h : HP} {x1 : Int} {x2 : Int} {x3 : Int} {f0 : Nat} (h_f0 : isF f0)
    (k1 : h f0 1 ≤ x3 → Q (some (vi x2)) h)
    (o2 : ¬ h f0 1 ≤ x3 → x2 < 0 → -2147483648 ≤ x3 + 1 ∧ x3 + 1 ≤ 2147483647)
    (k3 : ¬ h f0 1 ≤ x3 → x2 < 0 → Wp true i_Fl_strongestRow 4 [vr f0, vi x1, vi x3, vi (x3 + 1)] [] h Q)
    (o4 : ¬ h f0 1 ≤ x3 → ¬ x2 < 0 → WR (rmC h f0))
    (o5 : ¬ h f0 1 ≤ x3 → ¬ x2 < 0 → 0 ≤ x3 ∧ x3 < h f0 1)
    (o6 : ¬ h f0 1 ≤ x3 → ¬ x2 < 0 → 0 ≤ x2 ∧ x2 < h f0 1)
    (o7 : ¬ h f0 1 ≤ x3 → ¬ x2 < 0 → rIn (rmC h f0) x1 x3.toNat ≤ rIn (rmC h f0) x1 x2.toNat → -2147483648 ≤ x3 + 1 ∧ x3 + 1 ≤ 2147483647)
    (k8 : ¬ h f0 1 ≤ x3 → ¬ x2 < 0 → rIn (rmC h f0) x1 x3.toNat ≤ rIn (rmC h f0) x1 x2.toNat → Wp true i_Fl_strongestRow 4 [vr f0, vi x1, vi x2, vi (x3 + 1)] [] h Q)
    (o9 : ¬ h f0 1 ≤ x3 → ¬ x2 < 0 → ¬ rIn (rmC h f0) x1 x3.toNat ≤ rIn (rmC h f0) x1 x2.toNat → -2147483648 ≤ x3 + 1 ∧ x3 + 1 ≤ 2147483647)
    (k10 : ¬ h f0 1 ≤ x3 → ¬ x2 < 0 → ¬ rIn (rmC h f0) x1 x3.toNat ≤ rIn (rmC h f0) x1 x2.toNat → Wp true i_Fl_strongestRow 4 [vr f0, vi x1, vi x3, vi (x3 + 1)] [] h Q) :
    Wp true i_Fl_strongestRow 4 [vr f0, vi x1, vi x2, vi x3] [] h Q := by
  refine r_iload_n (v := x3) f_52_4 rfl ?_
  refine r_aload_n (v := f0) f_52_5 rfl (F_n h_f0) ?_
  refine r_geti (v := h f0 1) f_52_6 (F_k h_f0) (by decide) rfl ?_
  refine r_br2 (t := 39) f_52_9 rfl cb_ge (fun c1 => ?_) (fun c1 => ?_)
  · refine r_iload_n (v := x2) f_52_39 rfl ?_
    exact r_reti f_52_40 rfl (k1 c1)
  · refine r_iload_n (v := x2) f_52_12 rfl ?_
    refine r_br (t := 31) f_52_13 rfl cb_lt (fun c2 => ?_) (fun c2 => ?_)
    · refine r_iload_n (v := x3) f_52_31 rfl ?_
      refine r_istore_n (ls' := [vr f0, vi x1, vi x3, vi x3]) f_52_32 (Nat.le_of_ble_eq_true rfl) rfl ?_
      refine r_iinc (v := x3) (w := x3 + 1) (ls' := [vr f0, vi x1, vi x3, vi (x3 + 1)]) f_52_33 rfl rfl (o2 c1 c2) rfl ?_
      refine r_goto (t := 4) f_52_36 rfl ?_
      exact (k3 c1 c2)
    · refine r_aload_n (v := f0) f_52_16 rfl (F_n h_f0) ?_
      refine r_iload_n (v := x1) f_52_17 rfl ?_
      refine r_iload_n (v := x3) f_52_18 rfl ?_
      refine r_callv (as := [vr f0, vi x1, vi x3]) (st' := []) (ls0 := [vr f0, vi x1, vi x3]) f_52_19 (by decide) rfl rfl (Nat.le_of_ble_eq_true rfl) (Nat.le_of_ble_eq_true rfl) ⟨_, _, rfl, (F_k h_f0)⟩ rfl ?_
      refine c_Fl_boardsInRow h_f0 (o4 c1 c2) (o5 c1 c2) ?_
      show Wp true i_Fl_strongestRow 22 [vr f0, vi x1, vi x2, vi x3] [vi (rIn (rmC h f0) x1 x3.toNat)] h Q
      refine r_aload_n (v := f0) f_52_22 rfl (F_n h_f0) ?_
      refine r_iload_n (v := x1) f_52_23 rfl ?_
      refine r_iload_n (v := x2) f_52_24 rfl ?_
      refine r_callv (as := [vr f0, vi x1, vi x2]) (st' := [vi (rIn (rmC h f0) x1 x3.toNat)]) (ls0 := [vr f0, vi x1, vi x2]) f_52_25 (by decide) rfl rfl (Nat.le_of_ble_eq_true rfl) (Nat.le_of_ble_eq_true rfl) ⟨_, _, rfl, (F_k h_f0)⟩ rfl ?_
      refine c_Fl_boardsInRow h_f0 (o4 c1 c2) (o6 c1 c2) ?_
      show Wp true i_Fl_strongestRow 28 [vr f0, vi x1, vi x2, vi x3] [vi (rIn (rmC h f0) x1 x2.toNat), vi (rIn (rmC h f0) x1 x3.toNat)] h Q
      refine r_br2 (t := 33) f_52_28 rfl cb_le (fun c3 => ?_) (fun c3 => ?_)
      · refine r_iinc (v := x3) (w := x3 + 1) (ls' := [vr f0, vi x1, vi x2, vi (x3 + 1)]) f_52_33 rfl rfl (o7 c1 c2 c3) rfl ?_
        refine r_goto (t := 4) f_52_36 rfl ?_
        exact (k8 c1 c2 c3)
      · refine r_iload_n (v := x3) f_52_31 rfl ?_
        refine r_istore_n (ls' := [vr f0, vi x1, vi x3, vi x3]) f_52_32 (Nat.le_of_ble_eq_true rfl) rfl ?_
        refine r_iinc (v := x3) (w := x3 + 1) (ls' := [vr f0, vi x1, vi x3, vi (x3 + 1)]) f_52_33 rfl rfl (o9 c1 c2 c3) rfl ?_
        refine r_goto (t := 4) f_52_36 rfl ?_
        exact (k10 c1 c2 c3)

theorem c_Fl_strongestRow {Q : PQ} {h : HP} {x1 : Int} {f0 : Nat} (h_f0 : isF f0) (o1 : WR (rmC h f0)) (k : Q (some (vi (rStrong (rmC h f0) x1))) h) :
    Wp true i_Fl_strongestRow 0 [vr f0, vi x1, vr 9999, vr 9999] [] h Q := by
  have w := WC_0 o1
  refine g_Fl_strongestRow_0 h_f0 ?_
  have key : ∀ (d i : Nat) (s : Int), ((i : Int) + d = h f0 1 ∨ (d = 0 ∧ h f0 1 ≤ i)) → (-1 ≤ s ∧ s < i ∨ s = -1) → Q (some (vi (fld (fun r s => if s < 0 then (r : Int) else if rIn (rmC h f0) x1 r ≤ rIn (rmC h f0) x1 s.toNat then s else r) d i s))) h → Wp true i_Fl_strongestRow 4 [vr f0, vi x1, vi s, vi (i : Int)] [] h Q := by
    intro d
    induction d with
    | zero =>
      intro i s e hi kk
      simp only [fld, sumF, Int.add_zero] at kk
      refine g_Fl_strongestRow_4 h_f0 ?_ ?_ ?_ ?_ ?_ ?_ ?_ ?_ ?_ ?_
      · intro c1; (try simp only [Int.toNat_natCast] at c1); first | (exfalso; omega) | (exact kk)
      · intro c1 c2; (try simp only [Int.toNat_natCast] at c1 c2); first | omega | (exfalso; omega) | exact ⟨by omega, by omega⟩ | (first | exact o1 | assumption)
      · intro c1 c2; (try simp only [Int.toNat_natCast] at c1 c2); first | (exfalso; omega) | (skip)
      · intro c1 c2; (try simp only [Int.toNat_natCast] at c1 c2); first | omega | (exfalso; omega) | exact ⟨by omega, by omega⟩ | (first | exact o1 | assumption)
      · intro c1 c2; (try simp only [Int.toNat_natCast] at c1 c2); first | omega | (exfalso; omega) | exact ⟨by omega, by omega⟩ | (first | exact o1 | assumption)
      · intro c1 c2; (try simp only [Int.toNat_natCast] at c1 c2); first | omega | (exfalso; omega) | exact ⟨by omega, by omega⟩ | (first | exact o1 | assumption)
      · intro c1 c2 c3; (try simp only [Int.toNat_natCast] at c1 c2 c3); first | omega | (exfalso; omega) | exact ⟨by omega, by omega⟩ | (first | exact o1 | assumption)
      · intro c1 c2 c3; (try simp only [Int.toNat_natCast] at c1 c2 c3); first | (exfalso; omega) | (skip)
      · intro c1 c2 c3; (try simp only [Int.toNat_natCast] at c1 c2 c3); first | omega | (exfalso; omega) | exact ⟨by omega, by omega⟩ | (first | exact o1 | assumption)
      · intro c1 c2 c3; (try simp only [Int.toNat_natCast] at c1 c2 c3); first | (exfalso; omega) | (skip)
    | succ d ih =>
      intro i s e hi kk
      refine g_Fl_strongestRow_4 h_f0 ?_ ?_ ?_ ?_ ?_ ?_ ?_ ?_ ?_ ?_
      · intro c1; (try simp only [Int.toNat_natCast] at c1); first | (exfalso; omega) | (skip)
      · intro c1 c2; (try simp only [Int.toNat_natCast] at c1 c2); first | omega | (exfalso; omega) | exact ⟨by omega, by omega⟩ | (first | exact o1 | assumption)
      · intro c1 c2; (try simp only [Int.toNat_natCast] at c1 c2); first | (exfalso; omega) | (simp only [fld, if_pos c2] at kk; exact ih (i + 1) _ (by omega) (by (try simp only [Int.toNat_natCast]); omega) kk)
      · intro c1 c2; (try simp only [Int.toNat_natCast] at c1 c2); first | omega | (exfalso; omega) | exact ⟨by omega, by omega⟩ | (first | exact o1 | assumption)
      · intro c1 c2; (try simp only [Int.toNat_natCast] at c1 c2); first | omega | (exfalso; omega) | exact ⟨by omega, by omega⟩ | (first | exact o1 | assumption)
      · intro c1 c2; (try simp only [Int.toNat_natCast] at c1 c2); first | omega | (exfalso; omega) | exact ⟨by omega, by omega⟩ | (first | exact o1 | assumption)
      · intro c1 c2 c3; (try simp only [Int.toNat_natCast] at c1 c2 c3); first | omega | (exfalso; omega) | exact ⟨by omega, by omega⟩ | (first | exact o1 | assumption)
      · intro c1 c2 c3; (try simp only [Int.toNat_natCast] at c1 c2 c3); first | (exfalso; omega) | (simp only [fld, if_neg c2, if_pos c3] at kk; exact ih (i + 1) _ (by omega) (by (try simp only [Int.toNat_natCast]); omega) kk)
      · intro c1 c2 c3; (try simp only [Int.toNat_natCast] at c1 c2 c3); first | omega | (exfalso; omega) | exact ⟨by omega, by omega⟩ | (first | exact o1 | assumption)
      · intro c1 c2 c3; (try simp only [Int.toNat_natCast] at c1 c2 c3); first | (exfalso; omega) | (simp only [fld, if_neg c2, if_neg c3] at kk; exact ih (i + 1) _ (by omega) (by (try simp only [Int.toNat_natCast]); omega) kk)
  refine key (h f0 1).toNat 0 (-1) (by omega) (by omega) ?_
  exact k

theorem g_Fl_leastThing_0 {Q : PQ} {h : HP} {x1 : Int} {f0 : Nat} (h_f0 : isF f0)
    (k1 : Wp true i_Fl_leastThing 4 [vr f0, vi x1, vi (-1), vi 0] [] h Q) :
    Wp true i_Fl_leastThing 0 [vr f0, vi x1, vr 9999, vr 9999] [] h Q := by
  refine r_iconst f_53_0 (by decide) ?_
  refine r_istore_n (ls' := [vr f0, vi x1, vi (-1), vr 9999]) f_53_1 (Nat.le_of_ble_eq_true rfl) rfl ?_
  refine r_iconst f_53_2 (by decide) ?_
  refine r_istore_n (ls' := [vr f0, vi x1, vi (-1), vi 0]) f_53_3 (Nat.le_of_ble_eq_true rfl) rfl ?_
  exact k1

theorem g_Fl_leastThing_4 {Q : PQ} {h : HP} {x1 : Int} {x2 : Int} {x3 : Int} {f0 : Nat} (h_f0 : isF f0)
    (k1 : h f0 3 ≤ x3 → Q (some (vi x2)) h)
    (o2 : ¬ h f0 3 ≤ x3 → WR (rmC h f0))
    (o3 : ¬ h f0 3 ≤ x3 → 0 ≤ x3 ∧ x3 < h f0 3)
    (o4 : ¬ h f0 3 ≤ x3 → ¬ rHo (rmC h f0) x3.toNat = x1 → -2147483648 ≤ x3 + 1 ∧ x3 + 1 ≤ 2147483647)
    (k5 : ¬ h f0 3 ≤ x3 → ¬ rHo (rmC h f0) x3.toNat = x1 → Wp true i_Fl_leastThing 4 [vr f0, vi x1, vi x2, vi (x3 + 1)] [] h Q)
    (o6 : ¬ h f0 3 ≤ x3 → rHo (rmC h f0) x3.toNat = x1 → x2 < 0 → -2147483648 ≤ x3 + 1 ∧ x3 + 1 ≤ 2147483647)
    (k7 : ¬ h f0 3 ≤ x3 → rHo (rmC h f0) x3.toNat = x1 → x2 < 0 → Wp true i_Fl_leastThing 4 [vr f0, vi x1, vi x3, vi (x3 + 1)] [] h Q)
    (o8 : ¬ h f0 3 ≤ x3 → rHo (rmC h f0) x3.toNat = x1 → ¬ x2 < 0 → x1 = 0 ∨ x1 = 1)
    (o9 : ¬ h f0 3 ≤ x3 → rHo (rmC h f0) x3.toNat = x1 → ¬ x2 < 0 → 0 ≤ x2 ∧ x2 < h f0 3)
    (o10 : ¬ h f0 3 ≤ x3 → rHo (rmC h f0) x3.toNat = x1 → ¬ x2 < 0 → rWo (rmC h f0) x1 x2.toNat ≤ rWo (rmC h f0) x1 x3.toNat → -2147483648 ≤ x3 + 1 ∧ x3 + 1 ≤ 2147483647)
    (k11 : ¬ h f0 3 ≤ x3 → rHo (rmC h f0) x3.toNat = x1 → ¬ x2 < 0 → rWo (rmC h f0) x1 x2.toNat ≤ rWo (rmC h f0) x1 x3.toNat → Wp true i_Fl_leastThing 4 [vr f0, vi x1, vi x2, vi (x3 + 1)] [] h Q)
    (o12 : ¬ h f0 3 ≤ x3 → rHo (rmC h f0) x3.toNat = x1 → ¬ x2 < 0 → ¬ rWo (rmC h f0) x1 x2.toNat ≤ rWo (rmC h f0) x1 x3.toNat → -2147483648 ≤ x3 + 1 ∧ x3 + 1 ≤ 2147483647)
    (k13 : ¬ h f0 3 ≤ x3 → rHo (rmC h f0) x3.toNat = x1 → ¬ x2 < 0 → ¬ rWo (rmC h f0) x1 x2.toNat ≤ rWo (rmC h f0) x1 x3.toNat → Wp true i_Fl_leastThing 4 [vr f0, vi x1, vi x3, vi (x3 + 1)] [] h Q) :
    Wp true i_Fl_leastThing 4 [vr f0, vi x1, vi x2, vi x3] [] h Q := by
  refine r_iload_n (v := x3) f_53_4 rfl ?_
  refine r_aload_n (v := f0) f_53_5 rfl (F_n h_f0) ?_
  refine r_geti (v := h f0 3) f_53_6 (F_k h_f0) (by decide) rfl ?_
  refine r_br2 (t := 48) f_53_9 rfl cb_ge (fun c1 => ?_) (fun c1 => ?_)
  · refine r_iload_n (v := x2) f_53_48 rfl ?_
    exact r_reti f_53_49 rfl (k1 c1)
  · refine r_aload_n (v := f0) f_53_12 rfl (F_n h_f0) ?_
    refine r_iload_n (v := x3) f_53_13 rfl ?_
    refine r_callv (as := [vr f0, vi x3]) (st' := []) (ls0 := [vr f0, vi x3]) f_53_14 (by decide) rfl rfl (Nat.le_of_ble_eq_true rfl) (Nat.le_of_ble_eq_true rfl) ⟨_, _, rfl, (F_k h_f0)⟩ rfl ?_
    refine c_Fl_holderOf h_f0 (o2 c1) (o3 c1) ?_
    show Wp true i_Fl_leastThing 17 [vr f0, vi x1, vi x2, vi x3] [vi (rHo (rmC h f0) x3.toNat)] h Q
    refine r_iload_n (v := x1) f_53_17 rfl ?_
    refine r_br2 (t := 42) f_53_18 rfl cb_ne (fun c2 => ?_) (fun c2 => ?_)
    · refine r_iinc (v := x3) (w := x3 + 1) (ls' := [vr f0, vi x1, vi x2, vi (x3 + 1)]) f_53_42 rfl rfl (o4 c1 c2) rfl ?_
      refine r_goto (t := 4) f_53_45 rfl ?_
      exact (k5 c1 c2)
    · have c2 := Decidable.not_not.mp c2
      refine r_iload_n (v := x2) f_53_21 rfl ?_
      refine r_br (t := 40) f_53_22 rfl cb_lt (fun c3 => ?_) (fun c3 => ?_)
      · refine r_iload_n (v := x3) f_53_40 rfl ?_
        refine r_istore_n (ls' := [vr f0, vi x1, vi x3, vi x3]) f_53_41 (Nat.le_of_ble_eq_true rfl) rfl ?_
        refine r_iinc (v := x3) (w := x3 + 1) (ls' := [vr f0, vi x1, vi x3, vi (x3 + 1)]) f_53_42 rfl rfl (o6 c1 c2 c3) rfl ?_
        refine r_goto (t := 4) f_53_45 rfl ?_
        exact (k7 c1 c2 c3)
      · refine r_aload_n (v := f0) f_53_25 rfl (F_n h_f0) ?_
        refine r_iload_n (v := x1) f_53_26 rfl ?_
        refine r_iload_n (v := x3) f_53_27 rfl ?_
        refine r_callv (as := [vr f0, vi x1, vi x3]) (st' := []) (ls0 := [vr f0, vi x1, vi x3]) f_53_28 (by decide) rfl rfl (Nat.le_of_ble_eq_true rfl) (Nat.le_of_ble_eq_true rfl) ⟨_, _, rfl, (F_k h_f0)⟩ rfl ?_
        refine c_Fl_worthTo h_f0 (o2 c1) (o8 c1 c2 c3) (o3 c1) ?_
        show Wp true i_Fl_leastThing 31 [vr f0, vi x1, vi x2, vi x3] [vi (rWo (rmC h f0) x1 x3.toNat)] h Q
        refine r_aload_n (v := f0) f_53_31 rfl (F_n h_f0) ?_
        refine r_iload_n (v := x1) f_53_32 rfl ?_
        refine r_iload_n (v := x2) f_53_33 rfl ?_
        refine r_callv (as := [vr f0, vi x1, vi x2]) (st' := [vi (rWo (rmC h f0) x1 x3.toNat)]) (ls0 := [vr f0, vi x1, vi x2]) f_53_34 (by decide) rfl rfl (Nat.le_of_ble_eq_true rfl) (Nat.le_of_ble_eq_true rfl) ⟨_, _, rfl, (F_k h_f0)⟩ rfl ?_
        refine c_Fl_worthTo h_f0 (o2 c1) (o8 c1 c2 c3) (o9 c1 c2 c3) ?_
        show Wp true i_Fl_leastThing 37 [vr f0, vi x1, vi x2, vi x3] [vi (rWo (rmC h f0) x1 x2.toNat), vi (rWo (rmC h f0) x1 x3.toNat)] h Q
        refine r_br2 (t := 42) f_53_37 rfl cb_ge (fun c4 => ?_) (fun c4 => ?_)
        · refine r_iinc (v := x3) (w := x3 + 1) (ls' := [vr f0, vi x1, vi x2, vi (x3 + 1)]) f_53_42 rfl rfl (o10 c1 c2 c3 c4) rfl ?_
          refine r_goto (t := 4) f_53_45 rfl ?_
          exact (k11 c1 c2 c3 c4)
        · refine r_iload_n (v := x3) f_53_40 rfl ?_
          refine r_istore_n (ls' := [vr f0, vi x1, vi x3, vi x3]) f_53_41 (Nat.le_of_ble_eq_true rfl) rfl ?_
          refine r_iinc (v := x3) (w := x3 + 1) (ls' := [vr f0, vi x1, vi x3, vi (x3 + 1)]) f_53_42 rfl rfl (o12 c1 c2 c3 c4) rfl ?_
          refine r_goto (t := 4) f_53_45 rfl ?_
          exact (k13 c1 c2 c3 c4)

theorem c_Fl_leastThing {Q : PQ} {h : HP} {x1 : Int} {f0 : Nat} (h_f0 : isF f0) (o1 : WR (rmC h f0)) (o2 : x1 = 0 ∨ x1 = 1) (k : Q (some (vi (rLeast (rmC h f0) x1))) h) :
    Wp true i_Fl_leastThing 0 [vr f0, vi x1, vr 9999, vr 9999] [] h Q := by
  have w := WC_0 o1
  refine g_Fl_leastThing_0 h_f0 ?_
  have key : ∀ (d i : Nat) (s : Int), ((i : Int) + d = h f0 3 ∨ (d = 0 ∧ h f0 3 ≤ i)) → (-1 ≤ s ∧ s < i ∨ s = -1) → Q (some (vi (fld (fun i s => if rHo (rmC h f0) i = x1 then (if s < 0 then (i : Int) else if rWo (rmC h f0) x1 s.toNat ≤ rWo (rmC h f0) x1 i then s else i) else s) d i s))) h → Wp true i_Fl_leastThing 4 [vr f0, vi x1, vi s, vi (i : Int)] [] h Q := by
    intro d
    induction d with
    | zero =>
      intro i s e hi kk
      simp only [fld, sumF, Int.add_zero] at kk
      refine g_Fl_leastThing_4 h_f0 ?_ ?_ ?_ ?_ ?_ ?_ ?_ ?_ ?_ ?_ ?_ ?_ ?_
      · intro c1; (try simp only [Int.toNat_natCast] at c1); first | (exfalso; omega) | (exact kk)
      · intro c1; (try simp only [Int.toNat_natCast] at c1); first | omega | (exfalso; omega) | exact ⟨by omega, by omega⟩ | (first | exact o1 | assumption)
      · intro c1; (try simp only [Int.toNat_natCast] at c1); first | omega | (exfalso; omega) | exact ⟨by omega, by omega⟩ | (first | exact o1 | assumption)
      · intro c1 c2; (try simp only [Int.toNat_natCast] at c1 c2); first | omega | (exfalso; omega) | exact ⟨by omega, by omega⟩ | (first | exact o1 | assumption)
      · intro c1 c2; (try simp only [Int.toNat_natCast] at c1 c2); first | (exfalso; omega) | (skip)
      · intro c1 c2 c3; (try simp only [Int.toNat_natCast] at c1 c2 c3); first | omega | (exfalso; omega) | exact ⟨by omega, by omega⟩ | (first | exact o1 | assumption)
      · intro c1 c2 c3; (try simp only [Int.toNat_natCast] at c1 c2 c3); first | (exfalso; omega) | (skip)
      · intro c1 c2 c3; (try simp only [Int.toNat_natCast] at c1 c2 c3); first | omega | (exfalso; omega) | exact ⟨by omega, by omega⟩ | (first | exact o1 | assumption)
      · intro c1 c2 c3; (try simp only [Int.toNat_natCast] at c1 c2 c3); first | omega | (exfalso; omega) | exact ⟨by omega, by omega⟩ | (first | exact o1 | assumption)
      · intro c1 c2 c3 c4; (try simp only [Int.toNat_natCast] at c1 c2 c3 c4); first | omega | (exfalso; omega) | exact ⟨by omega, by omega⟩ | (first | exact o1 | assumption)
      · intro c1 c2 c3 c4; (try simp only [Int.toNat_natCast] at c1 c2 c3 c4); first | (exfalso; omega) | (skip)
      · intro c1 c2 c3 c4; (try simp only [Int.toNat_natCast] at c1 c2 c3 c4); first | omega | (exfalso; omega) | exact ⟨by omega, by omega⟩ | (first | exact o1 | assumption)
      · intro c1 c2 c3 c4; (try simp only [Int.toNat_natCast] at c1 c2 c3 c4); first | (exfalso; omega) | (skip)
    | succ d ih =>
      intro i s e hi kk
      refine g_Fl_leastThing_4 h_f0 ?_ ?_ ?_ ?_ ?_ ?_ ?_ ?_ ?_ ?_ ?_ ?_ ?_
      · intro c1; (try simp only [Int.toNat_natCast] at c1); first | (exfalso; omega) | (skip)
      · intro c1; (try simp only [Int.toNat_natCast] at c1); first | omega | (exfalso; omega) | exact ⟨by omega, by omega⟩ | (first | exact o1 | assumption)
      · intro c1; (try simp only [Int.toNat_natCast] at c1); first | omega | (exfalso; omega) | exact ⟨by omega, by omega⟩ | (first | exact o1 | assumption)
      · intro c1 c2; (try simp only [Int.toNat_natCast] at c1 c2); first | omega | (exfalso; omega) | exact ⟨by omega, by omega⟩ | (first | exact o1 | assumption)
      · intro c1 c2; (try simp only [Int.toNat_natCast] at c1 c2); first | (exfalso; omega) | (simp only [fld, if_neg c2] at kk; exact ih (i + 1) _ (by omega) (by (try simp only [Int.toNat_natCast]); omega) kk)
      · intro c1 c2 c3; (try simp only [Int.toNat_natCast] at c1 c2 c3); first | omega | (exfalso; omega) | exact ⟨by omega, by omega⟩ | (first | exact o1 | assumption)
      · intro c1 c2 c3; (try simp only [Int.toNat_natCast] at c1 c2 c3); first | (exfalso; omega) | (simp only [fld, if_pos c2, if_pos c3] at kk; exact ih (i + 1) _ (by omega) (by (try simp only [Int.toNat_natCast]); omega) kk)
      · intro c1 c2 c3; (try simp only [Int.toNat_natCast] at c1 c2 c3); first | omega | (exfalso; omega) | exact ⟨by omega, by omega⟩ | (first | exact o1 | assumption)
      · intro c1 c2 c3; (try simp only [Int.toNat_natCast] at c1 c2 c3); first | omega | (exfalso; omega) | exact ⟨by omega, by omega⟩ | (first | exact o1 | assumption)
      · intro c1 c2 c3 c4; (try simp only [Int.toNat_natCast] at c1 c2 c3 c4); first | omega | (exfalso; omega) | exact ⟨by omega, by omega⟩ | (first | exact o1 | assumption)
      · intro c1 c2 c3 c4; (try simp only [Int.toNat_natCast] at c1 c2 c3 c4); first | (exfalso; omega) | (simp only [fld, if_pos c2, if_neg c3, if_pos c4] at kk; exact ih (i + 1) _ (by omega) (by (try simp only [Int.toNat_natCast]); omega) kk)
      · intro c1 c2 c3 c4; (try simp only [Int.toNat_natCast] at c1 c2 c3 c4); first | omega | (exfalso; omega) | exact ⟨by omega, by omega⟩ | (first | exact o1 | assumption)
      · intro c1 c2 c3 c4; (try simp only [Int.toNat_natCast] at c1 c2 c3 c4); first | (exfalso; omega) | (simp only [fld, if_pos c2, if_neg c3, if_neg c4] at kk; exact ih (i + 1) _ (by omega) (by (try simp only [Int.toNat_natCast]); omega) kk)
  refine key (h f0 3).toNat 0 (-1) (by omega) (by omega) ?_
  exact k

theorem g_Fl_wantedThing_0 {Q : PQ} {h : HP} {x1 : Int} {f0 : Nat} (h_f0 : isF f0)
    (k1 : Wp true i_Fl_wantedThing 4 [vr f0, vi x1, vi (-1), vi 0] [] h Q) :
    Wp true i_Fl_wantedThing 0 [vr f0, vi x1, vr 9999, vr 9999] [] h Q := by
  refine r_iconst f_54_0 (by decide) ?_
  refine r_istore_n (ls' := [vr f0, vi x1, vi (-1), vr 9999]) f_54_1 (Nat.le_of_ble_eq_true rfl) rfl ?_
  refine r_iconst f_54_2 (by decide) ?_
  refine r_istore_n (ls' := [vr f0, vi x1, vi (-1), vi 0]) f_54_3 (Nat.le_of_ble_eq_true rfl) rfl ?_
  exact k1

theorem g_Fl_wantedThing_4 {Q : PQ} {h : HP} {x1 : Int} {x2 : Int} {x3 : Int} {f0 : Nat} (h_f0 : isF f0)
    (k1 : h f0 3 ≤ x3 → Q (some (vi x2)) h)
    (o2 : ¬ h f0 3 ≤ x3 → WR (rmC h f0))
    (o3 : ¬ h f0 3 ≤ x3 → 0 ≤ x3 ∧ x3 < h f0 3)
    (o4 : ¬ h f0 3 ≤ x3 → rHo (rmC h f0) x3.toNat = x1 → -2147483648 ≤ x3 + 1 ∧ x3 + 1 ≤ 2147483647)
    (k5 : ¬ h f0 3 ≤ x3 → rHo (rmC h f0) x3.toNat = x1 → Wp true i_Fl_wantedThing 4 [vr f0, vi x1, vi x2, vi (x3 + 1)] [] h Q)
    (o6 : ¬ h f0 3 ≤ x3 → ¬ rHo (rmC h f0) x3.toNat = x1 → x2 < 0 → -2147483648 ≤ x3 + 1 ∧ x3 + 1 ≤ 2147483647)
    (k7 : ¬ h f0 3 ≤ x3 → ¬ rHo (rmC h f0) x3.toNat = x1 → x2 < 0 → Wp true i_Fl_wantedThing 4 [vr f0, vi x1, vi x3, vi (x3 + 1)] [] h Q)
    (o8 : ¬ h f0 3 ≤ x3 → ¬ rHo (rmC h f0) x3.toNat = x1 → ¬ x2 < 0 → x1 = 0 ∨ x1 = 1)
    (o9 : ¬ h f0 3 ≤ x3 → ¬ rHo (rmC h f0) x3.toNat = x1 → ¬ x2 < 0 → 0 ≤ x2 ∧ x2 < h f0 3)
    (o10 : ¬ h f0 3 ≤ x3 → ¬ rHo (rmC h f0) x3.toNat = x1 → ¬ x2 < 0 → rWo (rmC h f0) x1 x3.toNat ≤ rWo (rmC h f0) x1 x2.toNat → -2147483648 ≤ x3 + 1 ∧ x3 + 1 ≤ 2147483647)
    (k11 : ¬ h f0 3 ≤ x3 → ¬ rHo (rmC h f0) x3.toNat = x1 → ¬ x2 < 0 → rWo (rmC h f0) x1 x3.toNat ≤ rWo (rmC h f0) x1 x2.toNat → Wp true i_Fl_wantedThing 4 [vr f0, vi x1, vi x2, vi (x3 + 1)] [] h Q)
    (o12 : ¬ h f0 3 ≤ x3 → ¬ rHo (rmC h f0) x3.toNat = x1 → ¬ x2 < 0 → ¬ rWo (rmC h f0) x1 x3.toNat ≤ rWo (rmC h f0) x1 x2.toNat → -2147483648 ≤ x3 + 1 ∧ x3 + 1 ≤ 2147483647)
    (k13 : ¬ h f0 3 ≤ x3 → ¬ rHo (rmC h f0) x3.toNat = x1 → ¬ x2 < 0 → ¬ rWo (rmC h f0) x1 x3.toNat ≤ rWo (rmC h f0) x1 x2.toNat → Wp true i_Fl_wantedThing 4 [vr f0, vi x1, vi x3, vi (x3 + 1)] [] h Q) :
    Wp true i_Fl_wantedThing 4 [vr f0, vi x1, vi x2, vi x3] [] h Q := by
  refine r_iload_n (v := x3) f_54_4 rfl ?_
  refine r_aload_n (v := f0) f_54_5 rfl (F_n h_f0) ?_
  refine r_geti (v := h f0 3) f_54_6 (F_k h_f0) (by decide) rfl ?_
  refine r_br2 (t := 48) f_54_9 rfl cb_ge (fun c1 => ?_) (fun c1 => ?_)
  · refine r_iload_n (v := x2) f_54_48 rfl ?_
    exact r_reti f_54_49 rfl (k1 c1)
  · refine r_aload_n (v := f0) f_54_12 rfl (F_n h_f0) ?_
    refine r_iload_n (v := x3) f_54_13 rfl ?_
    refine r_callv (as := [vr f0, vi x3]) (st' := []) (ls0 := [vr f0, vi x3]) f_54_14 (by decide) rfl rfl (Nat.le_of_ble_eq_true rfl) (Nat.le_of_ble_eq_true rfl) ⟨_, _, rfl, (F_k h_f0)⟩ rfl ?_
    refine c_Fl_holderOf h_f0 (o2 c1) (o3 c1) ?_
    show Wp true i_Fl_wantedThing 17 [vr f0, vi x1, vi x2, vi x3] [vi (rHo (rmC h f0) x3.toNat)] h Q
    refine r_iload_n (v := x1) f_54_17 rfl ?_
    refine r_br2 (t := 42) f_54_18 rfl cb_eq (fun c2 => ?_) (fun c2 => ?_)
    · refine r_iinc (v := x3) (w := x3 + 1) (ls' := [vr f0, vi x1, vi x2, vi (x3 + 1)]) f_54_42 rfl rfl (o4 c1 c2) rfl ?_
      refine r_goto (t := 4) f_54_45 rfl ?_
      exact (k5 c1 c2)
    · refine r_iload_n (v := x2) f_54_21 rfl ?_
      refine r_br (t := 40) f_54_22 rfl cb_lt (fun c3 => ?_) (fun c3 => ?_)
      · refine r_iload_n (v := x3) f_54_40 rfl ?_
        refine r_istore_n (ls' := [vr f0, vi x1, vi x3, vi x3]) f_54_41 (Nat.le_of_ble_eq_true rfl) rfl ?_
        refine r_iinc (v := x3) (w := x3 + 1) (ls' := [vr f0, vi x1, vi x3, vi (x3 + 1)]) f_54_42 rfl rfl (o6 c1 c2 c3) rfl ?_
        refine r_goto (t := 4) f_54_45 rfl ?_
        exact (k7 c1 c2 c3)
      · refine r_aload_n (v := f0) f_54_25 rfl (F_n h_f0) ?_
        refine r_iload_n (v := x1) f_54_26 rfl ?_
        refine r_iload_n (v := x3) f_54_27 rfl ?_
        refine r_callv (as := [vr f0, vi x1, vi x3]) (st' := []) (ls0 := [vr f0, vi x1, vi x3]) f_54_28 (by decide) rfl rfl (Nat.le_of_ble_eq_true rfl) (Nat.le_of_ble_eq_true rfl) ⟨_, _, rfl, (F_k h_f0)⟩ rfl ?_
        refine c_Fl_worthTo h_f0 (o2 c1) (o8 c1 c2 c3) (o3 c1) ?_
        show Wp true i_Fl_wantedThing 31 [vr f0, vi x1, vi x2, vi x3] [vi (rWo (rmC h f0) x1 x3.toNat)] h Q
        refine r_aload_n (v := f0) f_54_31 rfl (F_n h_f0) ?_
        refine r_iload_n (v := x1) f_54_32 rfl ?_
        refine r_iload_n (v := x2) f_54_33 rfl ?_
        refine r_callv (as := [vr f0, vi x1, vi x2]) (st' := [vi (rWo (rmC h f0) x1 x3.toNat)]) (ls0 := [vr f0, vi x1, vi x2]) f_54_34 (by decide) rfl rfl (Nat.le_of_ble_eq_true rfl) (Nat.le_of_ble_eq_true rfl) ⟨_, _, rfl, (F_k h_f0)⟩ rfl ?_
        refine c_Fl_worthTo h_f0 (o2 c1) (o8 c1 c2 c3) (o9 c1 c2 c3) ?_
        show Wp true i_Fl_wantedThing 37 [vr f0, vi x1, vi x2, vi x3] [vi (rWo (rmC h f0) x1 x2.toNat), vi (rWo (rmC h f0) x1 x3.toNat)] h Q
        refine r_br2 (t := 42) f_54_37 rfl cb_le (fun c4 => ?_) (fun c4 => ?_)
        · refine r_iinc (v := x3) (w := x3 + 1) (ls' := [vr f0, vi x1, vi x2, vi (x3 + 1)]) f_54_42 rfl rfl (o10 c1 c2 c3 c4) rfl ?_
          refine r_goto (t := 4) f_54_45 rfl ?_
          exact (k11 c1 c2 c3 c4)
        · refine r_iload_n (v := x3) f_54_40 rfl ?_
          refine r_istore_n (ls' := [vr f0, vi x1, vi x3, vi x3]) f_54_41 (Nat.le_of_ble_eq_true rfl) rfl ?_
          refine r_iinc (v := x3) (w := x3 + 1) (ls' := [vr f0, vi x1, vi x3, vi (x3 + 1)]) f_54_42 rfl rfl (o12 c1 c2 c3 c4) rfl ?_
          refine r_goto (t := 4) f_54_45 rfl ?_
          exact (k13 c1 c2 c3 c4)

theorem c_Fl_wantedThing {Q : PQ} {h : HP} {x1 : Int} {f0 : Nat} (h_f0 : isF f0) (o1 : WR (rmC h f0)) (o2 : x1 = 0 ∨ x1 = 1) (k : Q (some (vi (rWant (rmC h f0) x1))) h) :
    Wp true i_Fl_wantedThing 0 [vr f0, vi x1, vr 9999, vr 9999] [] h Q := by
  have w := WC_0 o1
  refine g_Fl_wantedThing_0 h_f0 ?_
  have key : ∀ (d i : Nat) (s : Int), ((i : Int) + d = h f0 3 ∨ (d = 0 ∧ h f0 3 ≤ i)) → (-1 ≤ s ∧ s < i ∨ s = -1) → Q (some (vi (fld (fun i s => if rHo (rmC h f0) i = x1 then s else (if s < 0 then (i : Int) else if rWo (rmC h f0) x1 i ≤ rWo (rmC h f0) x1 s.toNat then s else i)) d i s))) h → Wp true i_Fl_wantedThing 4 [vr f0, vi x1, vi s, vi (i : Int)] [] h Q := by
    intro d
    induction d with
    | zero =>
      intro i s e hi kk
      simp only [fld, sumF, Int.add_zero] at kk
      refine g_Fl_wantedThing_4 h_f0 ?_ ?_ ?_ ?_ ?_ ?_ ?_ ?_ ?_ ?_ ?_ ?_ ?_
      · intro c1; (try simp only [Int.toNat_natCast] at c1); first | (exfalso; omega) | (exact kk)
      · intro c1; (try simp only [Int.toNat_natCast] at c1); first | omega | (exfalso; omega) | exact ⟨by omega, by omega⟩ | (first | exact o1 | assumption)
      · intro c1; (try simp only [Int.toNat_natCast] at c1); first | omega | (exfalso; omega) | exact ⟨by omega, by omega⟩ | (first | exact o1 | assumption)
      · intro c1 c2; (try simp only [Int.toNat_natCast] at c1 c2); first | omega | (exfalso; omega) | exact ⟨by omega, by omega⟩ | (first | exact o1 | assumption)
      · intro c1 c2; (try simp only [Int.toNat_natCast] at c1 c2); first | (exfalso; omega) | (skip)
      · intro c1 c2 c3; (try simp only [Int.toNat_natCast] at c1 c2 c3); first | omega | (exfalso; omega) | exact ⟨by omega, by omega⟩ | (first | exact o1 | assumption)
      · intro c1 c2 c3; (try simp only [Int.toNat_natCast] at c1 c2 c3); first | (exfalso; omega) | (skip)
      · intro c1 c2 c3; (try simp only [Int.toNat_natCast] at c1 c2 c3); first | omega | (exfalso; omega) | exact ⟨by omega, by omega⟩ | (first | exact o1 | assumption)
      · intro c1 c2 c3; (try simp only [Int.toNat_natCast] at c1 c2 c3); first | omega | (exfalso; omega) | exact ⟨by omega, by omega⟩ | (first | exact o1 | assumption)
      · intro c1 c2 c3 c4; (try simp only [Int.toNat_natCast] at c1 c2 c3 c4); first | omega | (exfalso; omega) | exact ⟨by omega, by omega⟩ | (first | exact o1 | assumption)
      · intro c1 c2 c3 c4; (try simp only [Int.toNat_natCast] at c1 c2 c3 c4); first | (exfalso; omega) | (skip)
      · intro c1 c2 c3 c4; (try simp only [Int.toNat_natCast] at c1 c2 c3 c4); first | omega | (exfalso; omega) | exact ⟨by omega, by omega⟩ | (first | exact o1 | assumption)
      · intro c1 c2 c3 c4; (try simp only [Int.toNat_natCast] at c1 c2 c3 c4); first | (exfalso; omega) | (skip)
    | succ d ih =>
      intro i s e hi kk
      refine g_Fl_wantedThing_4 h_f0 ?_ ?_ ?_ ?_ ?_ ?_ ?_ ?_ ?_ ?_ ?_ ?_ ?_
      · intro c1; (try simp only [Int.toNat_natCast] at c1); first | (exfalso; omega) | (skip)
      · intro c1; (try simp only [Int.toNat_natCast] at c1); first | omega | (exfalso; omega) | exact ⟨by omega, by omega⟩ | (first | exact o1 | assumption)
      · intro c1; (try simp only [Int.toNat_natCast] at c1); first | omega | (exfalso; omega) | exact ⟨by omega, by omega⟩ | (first | exact o1 | assumption)
      · intro c1 c2; (try simp only [Int.toNat_natCast] at c1 c2); first | omega | (exfalso; omega) | exact ⟨by omega, by omega⟩ | (first | exact o1 | assumption)
      · intro c1 c2; (try simp only [Int.toNat_natCast] at c1 c2); first | (exfalso; omega) | (simp only [fld, if_pos c2] at kk; exact ih (i + 1) _ (by omega) (by (try simp only [Int.toNat_natCast]); omega) kk)
      · intro c1 c2 c3; (try simp only [Int.toNat_natCast] at c1 c2 c3); first | omega | (exfalso; omega) | exact ⟨by omega, by omega⟩ | (first | exact o1 | assumption)
      · intro c1 c2 c3; (try simp only [Int.toNat_natCast] at c1 c2 c3); first | (exfalso; omega) | (simp only [fld, if_neg c2, if_pos c3] at kk; exact ih (i + 1) _ (by omega) (by (try simp only [Int.toNat_natCast]); omega) kk)
      · intro c1 c2 c3; (try simp only [Int.toNat_natCast] at c1 c2 c3); first | omega | (exfalso; omega) | exact ⟨by omega, by omega⟩ | (first | exact o1 | assumption)
      · intro c1 c2 c3; (try simp only [Int.toNat_natCast] at c1 c2 c3); first | omega | (exfalso; omega) | exact ⟨by omega, by omega⟩ | (first | exact o1 | assumption)
      · intro c1 c2 c3 c4; (try simp only [Int.toNat_natCast] at c1 c2 c3 c4); first | omega | (exfalso; omega) | exact ⟨by omega, by omega⟩ | (first | exact o1 | assumption)
      · intro c1 c2 c3 c4; (try simp only [Int.toNat_natCast] at c1 c2 c3 c4); first | (exfalso; omega) | (simp only [fld, if_neg c2, if_neg c3, if_pos c4] at kk; exact ih (i + 1) _ (by omega) (by (try simp only [Int.toNat_natCast]); omega) kk)
      · intro c1 c2 c3 c4; (try simp only [Int.toNat_natCast] at c1 c2 c3 c4); first | omega | (exfalso; omega) | exact ⟨by omega, by omega⟩ | (first | exact o1 | assumption)
      · intro c1 c2 c3 c4; (try simp only [Int.toNat_natCast] at c1 c2 c3 c4); first | (exfalso; omega) | (simp only [fld, if_neg c2, if_neg c3, if_neg c4] at kk; exact ih (i + 1) _ (by omega) (by (try simp only [Int.toNat_natCast]); omega) kk)
  refine key (h f0 3).toNat 0 (-1) (by omega) (by omega) ?_
  exact k
