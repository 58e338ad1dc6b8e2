theorem sumF_zero {f : Nat → Int} : ∀ (d i : Nat), (∀ j, i ≤ j → j < i + d → f j = 0) → sumF f d i = 0
  | 0, _, _ => rfl
  | d + 1, i, h => by
    simp only [sumF]
    rw [h i (by omega) (by omega), sumF_zero d (i + 1) (fun j h1 h2 => h j (by omega) (by omega))]
    rfl
theorem sumF_one {f : Nat → Int} {t : Nat} : ∀ (d i : Nat), i ≤ t → t < i + d → (∀ j, i ≤ j → j < i + d → j ≠ t → f j = 0) → sumF f d i = f t
  | 0, i, h1, h2, _ => by omega
  | d + 1, i, h1, h2, h => by
    simp only [sumF]
    by_cases e : i = t
    · subst e
      rw [sumF_zero d (i + 1) (fun j g1 g2 => h j (by omega) (by omega) (by omega))]
      omega
    · rw [h i (by omega) (by omega) e, sumF_one d (i + 1) (by omega) (by omega) (fun j g1 g2 => h j (by omega) (by omega))]
      omega
theorem sumF_swap {f : Nat → Nat → Int} (d' i' : Nat) : ∀ (d i : Nat), sumF (fun a => sumF (fun b => f a b) d' i') d i = sumF (fun b => sumF (fun a => f a b) d i) d' i'
  | 0, i => by
    have e : sumF (fun b => sumF (fun a => f a b) 0 i) d' i' = 0 := sumF_zero d' i' (fun j _ _ => rfl)
    rw [e]; rfl
  | d + 1, i => by
    have e : sumF (fun b => sumF (fun a => f a b) (d + 1) i) d' i' = sumF (fun b => f i b + sumF (fun a => f a b) d (i + 1)) d' i' := sumF_congr d' i' (fun j _ _ => rfl)
    rw [e, sumF_add, ← sumF_swap d' i' d (i + 1)]
    rfl
theorem sumF_ge (k : Int) : ∀ (d i : Nat), sumF (fun c => if k ≤ (c : Int) then 1 else 0) d i = max 0 ((i : Int) + d - max k i)
  | 0, i => by simp only [sumF]; omega
  | d + 1, i => by
    have e := sumF_ge k d (i + 1)
    simp only [sumF]
    rw [e]
    split <;> omega
theorem sumF_lt (k : Int) : ∀ (d i : Nat), sumF (fun c => if k ≤ (c : Int) then 0 else 1) d i = d - max 0 ((i : Int) + d - max k i)
  | 0, i => by simp only [sumF]; omega
  | d + 1, i => by
    have e := sumF_lt k d (i + 1)
    simp only [sumF]
    rw [e]
    split <;> omega
def rOne (R : HP) (l : Int) (i : Nat) : Int := if rHo R i = rBy R (R 2 i) (R 3 i).toNat then 0 else if rHo R i = l then 1 else -1
theorem rBy_01 (R : HP) (c : Int) (r : Nat) : rBy R c r = 0 ∨ rBy R c r = 1 := by
  unfold rBy
  split
  · exact Or.inr rfl
  · exact Or.inl rfl
/-- one board: by the LINE, and what its THING changes -/
theorem board_one {R : HP} (W : WR R) {l : Int} (hl : l = 0 ∨ l = 1) (c r : Nat) : (if rLand R c r = l then (1 : Int) else 0) = (if rBy R c r = l then 1 else 0) + sumF (fun i => if R 2 i = c ∧ R 3 i = r then rOne R l i else 0) (R 0 3).toNat 0 := by
  have w := W.1
  rcases rOn_rg R c r with e | ⟨e1, e2, e3, e4⟩
  · have hz : sumF (fun i => if R 2 i = c ∧ R 3 i = r then rOne R l i else 0) (R 0 3).toNat 0 = 0 := by
      apply sumF_zero
      intro j _ hj
      rw [if_neg]
      intro q
      have := rOn_self W (t := j) (by omega)
      rw [q.1, q.2] at this
      omega
    have eL : rLand R c r = rBy R c r := by
      unfold rLand
      rw [if_neg (by omega), Int.toNat_natCast]
    rw [hz, eL, Int.add_zero]
  · have ht : ((rOn R c r).toNat : Int) < R 0 3 := by omega
    have hs1 : sumF (fun i => if R 2 i = c ∧ R 3 i = r then rOne R l i else 0) (R 0 3).toNat 0 = rOne R l (rOn R c r).toNat := by
      rw [sumF_one (t := (rOn R c r).toNat) _ _ (by omega) (by omega), if_pos ⟨e3, e4⟩]
      intro j _ hj hne
      rw [if_neg]
      intro q
      have := rOn_self W (t := j) (by omega)
      rw [q.1, q.2] at this
      omega
    rw [hs1]
    have hh := rHo_01 W ht
    have hb := rBy_01 R c r
    unfold rLand rOne
    rw [if_pos e1, e3, e4, Int.toNat_natCast]
    rcases hh with a | a <;> rcases hb with b | b <;> rcases hl with rfl | rfl <;> simp [a, b]
def mBoards (R : HP) (l : Int) : Int := sumF (fun r => sumF (fun c => if rLand R c r = l then 1 else 0) (R 0 0).toNat 0) (R 0 1).toNat 0
theorem row_line {R : HP} (W : WR R) {l : Int} (hl : l = 0 ∨ l = 1) {r : Nat} (hr : (r : Int) < R 0 1) : sumF (fun c => if rBy R c r = l then (1 : Int) else 0) (R 0 0).toNat 0 = rIn R l r := by
  have w := W.1
  have w1 := W.2.1 r hr
  unfold rIn
  rcases hl with rfl | rfl
  · have e : sumF (fun c => if rBy R c r = 0 then (1 : Int) else 0) (R 0 0).toNat 0 = sumF (fun c => if R 1 r ≤ (c : Int) then 0 else 1) (R 0 0).toNat 0 := by
      apply sumF_congr
      intro j _ _
      unfold rBy
      by_cases q : R 1 r ≤ (j : Int) <;> simp [q]
    rw [e, sumF_lt, if_pos rfl]
    omega
  · have e : sumF (fun c => if rBy R c r = 1 then (1 : Int) else 0) (R 0 0).toNat 0 = sumF (fun c => if R 1 r ≤ (c : Int) then 1 else 0) (R 0 0).toNat 0 := by
      apply sumF_congr
      intro j _ _
      unfold rBy
      by_cases q : R 1 r ≤ (j : Int) <;> simp [q]
    rw [e, sumF_ge, if_neg (by decide)]
    omega
theorem mBoards_eq {R : HP} (W : WR R) {l : Int} (hl : l = 0 ∨ l = 1) : mBoards R l = rBoards R l := by
  have w := W.1
  have e1 : mBoards R l = sumF (fun r => rIn R l r + sumF (fun i => sumF (fun c => if R 2 i = (c : Nat) ∧ R 3 i = (r : Nat) then rOne R l i else 0) (R 0 0).toNat 0) (R 0 3).toNat 0) (R 0 1).toNat 0 := by
    unfold mBoards
    apply sumF_congr
    intro r _ hr
    rw [sumF_congr (g := fun c => (if rBy R c r = l then (1 : Int) else 0) + sumF (fun i => if R 2 i = (c : Nat) ∧ R 3 i = (r : Nat) then rOne R l i else 0) (R 0 3).toNat 0) _ _ (fun c _ _ => board_one W hl c r)]
    rw [sumF_add, row_line W hl (by omega), sumF_swap]
  rw [e1, sumF_add, sumF_swap]
  unfold rBoards rByLine
  congr 1
  apply sumF_congr
  intro i _ hi
  obtain ⟨v1, v2, -⟩ := W.2.2.1 i (by omega)
  rw [sumF_one (t := (R 3 i).toNat) _ _ (by omega) (by omega)]
  · rw [sumF_one (t := (R 2 i).toNat) _ _ (by omega) (by omega), if_pos ⟨by omega, by omega⟩]
    · rfl
    · intro j _ _ hne
      rw [if_neg (by omega)]
  · intro j _ _ hne
    apply sumF_zero
    intro c _ _
    rw [if_neg (by omega)]
theorem mBoards_row {R : HP} (l : Int) (r : Int) (d i : Nat) : 0 ≤ sumF (fun c => if rLand R c r = l then (1 : Int) else 0) d i ∧ sumF (fun c => if rLand R c r = l then (1 : Int) else 0) d i ≤ d := by
  have := sumF_rng (f := fun c => if rLand R c r = l then (1 : Int) else 0) (a := 0) (b := 1) d i (fun j _ _ => by split <;> omega)
  omega

theorem g_M_boardsOf_0 {Q : PQ} {h : HP} {x1 : Int} 
    (k1 : Wp true i_M_boardsOf 4 [vr 103, vi x1, vi 0, vi 0, vr 9999] [] h Q) :
    Wp true i_M_boardsOf 0 [vr 103, vi x1, vr 9999, vr 9999, vr 9999] [] h Q := by
  refine r_iconst f_283_0 (by decide) ?_
  refine r_istore_n (ls' := [vr 103, vi x1, vi 0, vr 9999, vr 9999]) f_283_1 (Nat.le_of_ble_eq_true rfl) rfl ?_
  refine r_iconst f_283_2 (by decide) ?_
  refine r_istore_n (ls' := [vr 103, vi x1, vi 0, vi 0, vr 9999]) f_283_3 (Nat.le_of_ble_eq_true rfl) rfl ?_
  exact k1

theorem g_M_boardsOf_4 {Q : PQ} {h : HP} {x1 : Int} {x2 : Int} {x3 : Int} {j4 : AV} 
    (k1 : h 104 1 ≤ x3 → Q (some (vi x2)) h)
    (k2 : ¬ h 104 1 ≤ x3 → Wp true i_M_boardsOf 17 [vr 103, vi x1, vi x2, vi x3, vi 0] [] h Q) :
    Wp true i_M_boardsOf 4 [vr 103, vi x1, vi x2, vi x3, j4] [] h Q := by
  refine r_iload_n (v := x3) f_283_4 rfl ?_
  refine r_aload_n (v := 103) f_283_5 rfl (by decide) ?_
  refine r_getr (q := 104) f_283_6 rfl (by decide) (Or.inl rfl) rfl ?_
  refine r_iconst f_283_9 (by decide) ?_
  refine r_iaload (n := 3000) (v := h 104 1) f_283_10 ⟨rfl, rfl⟩ (by decide) rfl ?_
  refine r_br2 (t := 59) f_283_11 rfl cb_ge (fun c1 => ?_) (fun c1 => ?_)
  · refine r_iload_n (v := x2) f_283_59 rfl ?_
    exact r_reti f_283_60 rfl (k1 c1)
  · refine r_iconst f_283_14 (by decide) ?_
    refine r_istore (ls' := [vr 103, vi x1, vi x2, vi x3, vi 0]) f_283_15 (Nat.le_of_ble_eq_true rfl) rfl ?_
    exact (k2 c1)

theorem g_M_boardsOf_17 {Q : PQ} {h : HP} {x1 : Int} {x2 : Int} {x3 : Int} {x4 : Int} 
    (o1 : h 104 0 ≤ x4 → -2147483648 ≤ x3 + 1 ∧ x3 + 1 ≤ 2147483647)
    (k2 : h 104 0 ≤ x4 → Wp true i_M_boardsOf 4 [vr 103, vi x1, vi x2, vi (x3 + 1), vi x4] [] h Q)
    (o3 : ¬ h 104 0 ≤ x4 → WR (rmM h 0))
    (o4 : ¬ h 104 0 ≤ x4 → 0 ≤ x3 ∧ x3 < h 104 1)
    (o5 : ¬ h 104 0 ≤ x4 → ¬ rLand (rmM h 0) x4 x3 = x1 → -2147483648 ≤ x2 + 0 ∧ x2 + 0 ≤ 2147483647)
    (o6 : ¬ h 104 0 ≤ x4 → ¬ rLand (rmM h 0) x4 x3 = x1 → -2147483648 ≤ x4 + 1 ∧ x4 + 1 ≤ 2147483647)
    (k7 : ¬ h 104 0 ≤ x4 → ¬ rLand (rmM h 0) x4 x3 = x1 → Wp true i_M_boardsOf 17 [vr 103, vi x1, vi (x2 + 0), vi x3, vi (x4 + 1)] [] h Q)
    (o8 : ¬ h 104 0 ≤ x4 → rLand (rmM h 0) x4 x3 = x1 → -2147483648 ≤ x2 + 1 ∧ x2 + 1 ≤ 2147483647)
    (o9 : ¬ h 104 0 ≤ x4 → rLand (rmM h 0) x4 x3 = x1 → -2147483648 ≤ x4 + 1 ∧ x4 + 1 ≤ 2147483647)
    (k10 : ¬ h 104 0 ≤ x4 → rLand (rmM h 0) x4 x3 = x1 → Wp true i_M_boardsOf 17 [vr 103, vi x1, vi (x2 + 1), vi x3, vi (x4 + 1)] [] h Q) :
    Wp true i_M_boardsOf 17 [vr 103, vi x1, vi x2, vi x3, vi x4] [] h Q := by
  refine r_iload (v := x4) f_283_17 rfl ?_
  refine r_aload_n (v := 103) f_283_19 rfl (by decide) ?_
  refine r_getr (q := 104) f_283_20 rfl (by decide) (Or.inl rfl) rfl ?_
  refine r_iconst f_283_23 (by decide) ?_
  refine r_iaload (n := 3000) (v := h 104 0) f_283_24 ⟨rfl, rfl⟩ (by decide) rfl ?_
  refine r_br2 (t := 53) f_283_25 rfl cb_ge (fun c1 => ?_) (fun c1 => ?_)
  · refine r_iinc (v := x3) (w := x3 + 1) (ls' := [vr 103, vi x1, vi x2, vi (x3 + 1), vi x4]) f_283_53 rfl rfl (o1 c1) rfl ?_
    refine r_goto (t := 4) f_283_56 rfl ?_
    exact (k2 c1)
  · refine r_iload_n (v := x2) f_283_28 rfl ?_
    refine r_aload_n (v := 103) f_283_29 rfl (by decide) ?_
    refine r_iload (v := x4) f_283_30 rfl ?_
    refine r_iload_n (v := x3) f_283_32 rfl ?_
    refine r_callv (as := [vr 103, vi x4, vi x3]) (st' := [vi x2]) (ls0 := [vr 103, vi x4, vi x3, vr 9999]) f_283_33 (by decide) rfl rfl (Nat.le_of_ble_eq_true rfl) (Nat.le_of_ble_eq_true rfl) ⟨_, _, rfl, rfl⟩ rfl ?_
    refine c_M_landOf (o3 c1) (o4 c1) ?_
    show Wp true i_M_boardsOf 36 [vr 103, vi x1, vi x2, vi x3, vi x4] [vi (rLand (rmM h 0) x4 x3), vi x2] h Q
    refine r_iload_n (v := x1) f_283_36 rfl ?_
    refine r_br2 (t := 44) f_283_37 rfl cb_ne (fun c2 => ?_) (fun c2 => ?_)
    · refine r_iconst f_283_44 (by decide) ?_
      refine r_iadd (u := x2 + 0) f_283_45 rfl (o5 c1 c2) ?_
      refine r_istore_n (ls' := [vr 103, vi x1, vi (x2 + 0), vi x3, vi x4]) f_283_46 (Nat.le_of_ble_eq_true rfl) rfl ?_
      refine r_iinc (v := x4) (w := x4 + 1) (ls' := [vr 103, vi x1, vi (x2 + 0), vi x3, vi (x4 + 1)]) f_283_47 rfl rfl (o6 c1 c2) rfl ?_
      refine r_goto (t := 17) f_283_50 rfl ?_
      exact (k7 c1 c2)
    · have c2 := Decidable.not_not.mp c2
      refine r_iconst f_283_40 (by decide) ?_
      refine r_goto (t := 45) f_283_41 rfl ?_
      refine r_iadd (u := x2 + 1) f_283_45 rfl (o8 c1 c2) ?_
      refine r_istore_n (ls' := [vr 103, vi x1, vi (x2 + 1), vi x3, vi x4]) f_283_46 (Nat.le_of_ble_eq_true rfl) rfl ?_
      refine r_iinc (v := x4) (w := x4 + 1) (ls' := [vr 103, vi x1, vi (x2 + 1), vi x3, vi (x4 + 1)]) f_283_47 rfl rfl (o9 c1 c2) rfl ?_
      refine r_goto (t := 17) f_283_50 rfl ?_
      exact (k10 c1 c2)

theorem c_M_boardsOf {Q : PQ} {h : HP} {x1 : Int} (o1 : WR (rmM h 0)) (o2 : x1 = 0 ∨ x1 = 1) (k : Q (some (vi (rBoards (rmM h 0) x1))) h) :
    Wp true i_M_boardsOf 0 [vr 103, vi x1, vr 9999, vr 9999, vr 9999] [] h Q := by
  have w := WM_0 o1
  rw [← mBoards_eq o1 o2] at k
  refine g_M_boardsOf_0 ?_
  have row : ∀ (d i r : Nat) (s : Int), (i : Int) + d = h 104 0 → (r : Int) < h 104 1 → (0 ≤ s ∧ s ≤ 9 * r + i) → (∀ j : AV, Wp true i_M_boardsOf 4 [vr 103, vi x1, vi (s + sumF (fun c => if rLand (rmM h 0) c r = x1 then 1 else 0) d i), vi ((r : Int) + 1), j] [] h Q) → Wp true i_M_boardsOf 17 [vr 103, vi x1, vi s, vi (r : Int), vi (i : Int)] [] h Q := by
    intro d
    induction d with
    | zero =>
      intro i r s e hr hi kk
      simp only [sumF, Int.add_zero] at kk
      refine g_M_boardsOf_17 ?_ ?_ ?_ ?_ ?_ ?_ ?_ ?_ ?_ ?_
      · intro c1; (try simp only [Int.toNat_natCast] at c1); first | omega | (exfalso; omega) | exact ⟨by omega, by omega⟩ | (first | exact o1 | omega)
      · intro c1; (try simp only [Int.toNat_natCast] at c1); first | (exfalso; omega) | (exact kk _)
      · intro c1; (try simp only [Int.toNat_natCast] at c1); first | omega | (exfalso; omega) | exact ⟨by omega, by omega⟩ | (first | exact o1 | omega)
      · intro c1; (try simp only [Int.toNat_natCast] at c1); first | omega | (exfalso; omega) | exact ⟨by omega, by omega⟩ | (first | exact o1 | omega)
      · intro c1 c2; (try simp only [Int.toNat_natCast] at c1 c2); first | omega | (exfalso; omega) | exact ⟨by omega, by omega⟩ | (first | exact o1 | omega)
      · intro c1 c2; (try simp only [Int.toNat_natCast] at c1 c2); first | omega | (exfalso; omega) | exact ⟨by omega, by omega⟩ | (first | exact o1 | omega)
      · intro c1 c2; (try simp only [Int.toNat_natCast] at c1 c2); first | (exfalso; omega) | (skip)
      · intro c1 c2; (try simp only [Int.toNat_natCast] at c1 c2); first | omega | (exfalso; omega) | exact ⟨by omega, by omega⟩ | (first | exact o1 | omega)
      · intro c1 c2; (try simp only [Int.toNat_natCast] at c1 c2); first | omega | (exfalso; omega) | exact ⟨by omega, by omega⟩ | (first | exact o1 | omega)
      · intro c1 c2; (try simp only [Int.toNat_natCast] at c1 c2); first | (exfalso; omega) | (skip)
    | succ d ih =>
      intro i r s e hr hi kk
      refine g_M_boardsOf_17 ?_ ?_ ?_ ?_ ?_ ?_ ?_ ?_ ?_ ?_
      · intro c1; (try simp only [Int.toNat_natCast] at c1); first | omega | (exfalso; omega) | exact ⟨by omega, by omega⟩ | (first | exact o1 | omega)
      · intro c1; (try simp only [Int.toNat_natCast] at c1); first | (exfalso; omega) | (skip)
      · intro c1; (try simp only [Int.toNat_natCast] at c1); first | omega | (exfalso; omega) | exact ⟨by omega, by omega⟩ | (first | exact o1 | omega)
      · intro c1; (try simp only [Int.toNat_natCast] at c1); first | omega | (exfalso; omega) | exact ⟨by omega, by omega⟩ | (first | exact o1 | omega)
      · intro c1 c2; (try simp only [Int.toNat_natCast] at c1 c2); first | omega | (exfalso; omega) | exact ⟨by omega, by omega⟩ | (first | exact o1 | omega)
      · intro c1 c2; (try simp only [Int.toNat_natCast] at c1 c2); first | omega | (exfalso; omega) | exact ⟨by omega, by omega⟩ | (first | exact o1 | omega)
      · intro c1 c2; (try simp only [Int.toNat_natCast] at c1 c2)
        refine ih (i + 1) r _ (by omega) hr (by omega) (fun j => ?_)
        have kk := kk j
        simp only [sumF, if_neg c2] at kk
        rw [Int.zero_add] at kk
        rw [Int.add_zero]
        exact kk
      · intro c1 c2; (try simp only [Int.toNat_natCast] at c1 c2); first | omega | (exfalso; omega) | exact ⟨by omega, by omega⟩ | (first | exact o1 | omega)
      · intro c1 c2; (try simp only [Int.toNat_natCast] at c1 c2); first | omega | (exfalso; omega) | exact ⟨by omega, by omega⟩ | (first | exact o1 | omega)
      · intro c1 c2; (try simp only [Int.toNat_natCast] at c1 c2)
        refine ih (i + 1) r _ (by omega) hr (by omega) (fun j => ?_)
        have kk := kk j
        simp only [sumF, if_pos c2] at kk
        rw [Int.add_assoc]
        exact kk
  have all : ∀ (d r : Nat) (s : Int) (j : AV), (r : Int) + d = h 104 1 → (0 ≤ s ∧ s ≤ 9 * r) → Q (some (vi (s + sumF (fun r => sumF (fun c => if rLand (rmM h 0) c r = x1 then 1 else 0) (h 104 0).toNat 0) d r))) h → Wp true i_M_boardsOf 4 [vr 103, vi x1, vi s, vi (r : Int), j] [] h Q := by
    intro d
    induction d with
    | zero =>
      intro r s j e hi kk
      simp only [sumF, Int.add_zero] at kk
      refine g_M_boardsOf_4 ?_ ?_
      · intro c1; (try simp only [Int.toNat_natCast] at c1); first | (exfalso; omega) | (exact kk)
      · intro c1; (try simp only [Int.toNat_natCast] at c1); first | (exfalso; omega) | (skip)
    | succ d ih =>
      intro r s j e hi kk
      have rr := mBoards_row (R := rmM h 0) x1 (r : Int) (h 104 0).toNat 0
      refine g_M_boardsOf_4 ?_ ?_
      · intro c1; (try simp only [Int.toNat_natCast] at c1); first | (exfalso; omega) | (skip)
      · intro c1; (try simp only [Int.toNat_natCast] at c1)
        refine row (h 104 0).toNat 0 r s (by omega) (by omega) (by omega) (fun j => ?_)
        refine ih (r + 1) _ j (by omega) (by omega) ?_
        simp only [sumF] at kk
        rw [Int.add_assoc]
        exact kk
  refine all (h 104 1).toNat 0 0 _ (by omega) (by omega) ?_
  rw [Int.zero_add]
  exact k

def qBoards (R : HP) (x : Int) : Int × Int := if x = 0 ∨ x = 1 then (rBoards R x, 0) else (-1, 1)

theorem g_C_boards_0 {Q : PQ} {h : HP} {x1 : Int} 
    (k1 : ¬ (x1 = 0 ∨ x1 = 1) → Q (some (vi (-1))) (hs h 0 0 1))
    (o2 : (x1 = 0 ∨ x1 = 1) → WR (rmC h 10))
    (k3 : (x1 = 0 ∨ x1 = 1) → Q (some (vi (rBoards (rmC h 10) x1))) (hs h 0 0 0)) :
    Wp true i_C_boards 0 [vr 0, vi x1] [] h Q := by
  refine r_iload_n (v := x1) f_158_0 rfl ?_
  refine r_calls (as := [vi x1]) (st' := []) (ls0 := [vi x1]) f_158_1 (by decide) (by decide) rfl rfl (Nat.le_of_ble_eq_true rfl) (Nat.le_of_ble_eq_true rfl) rfl ?_
  refine c_C_isLand  ?_
  show Wp true i_C_boards 4 [vr 0, vi x1] [vi (bi (x1 = 0 ∨ x1 = 1))] h Q
  refine r_br (t := 22) f_158_4 rfl cb_bf (fun c1 => ?_) (fun c1 => ?_)
  · refine r_aload_n (v := 0) f_158_22 rfl (by decide) ?_
    refine r_iconst f_158_23 (by decide) ?_
    refine r_callv (as := [vr 0, vi 1]) (st' := []) (ls0 := [vr 0, vi 1]) f_158_24 (by decide) rfl rfl (Nat.le_of_ble_eq_true rfl) (Nat.le_of_ble_eq_true rfl) ⟨_, _, rfl, rfl⟩ rfl ?_
    refine c_C_refuse  ?_
    show Wp true i_C_boards 27 [vr 0, vi x1] [vi (-1)] (hs h 0 0 1) Q
    exact r_reti f_158_27 rfl (k1 c1)
  · have c1 := Decidable.not_not.mp c1
    refine r_aload_n (v := 0) f_158_7 rfl (by decide) ?_
    refine r_aload_n (v := 0) f_158_8 rfl (by decide) ?_
    refine r_getr (q := 10) f_158_9 rfl (by decide) (Or.inl rfl) rfl ?_
    refine r_iload_n (v := x1) f_158_12 rfl ?_
    refine r_callv (as := [vr 10, vi x1]) (st' := [vr 0]) (ls0 := [vr 10, vi x1, vr 9999, vr 9999, vr 9999, vr 9999]) f_158_13 (by decide) rfl rfl (Nat.le_of_ble_eq_true rfl) (Nat.le_of_ble_eq_true rfl) ⟨_, _, rfl, rfl⟩ rfl ?_
    refine c_Fl_boardsOf isF_10 (o2 c1) ?_
    show Wp true i_C_boards 16 [vr 0, vi x1] [vi (rBoards (rmC h 10) x1), vr 0] h Q
    refine r_callv (as := [vr 0, vi (rBoards (rmC h 10) x1)]) (st' := []) (ls0 := [vr 0, vi (rBoards (rmC h 10) x1)]) f_158_16 (by decide) rfl rfl (Nat.le_of_ble_eq_true rfl) (Nat.le_of_ble_eq_true rfl) ⟨_, _, rfl, rfl⟩ rfl ?_
    refine c_C_answer  ?_
    show Wp true i_C_boards 19 [vr 0, vi x1] [vi (rBoards (rmC h 10) x1)] (hs h 0 0 0) Q
    refine r_goto (t := 27) f_158_19 rfl ?_
    exact r_reti f_158_27 rfl (k3 c1)

theorem c_C_boards {Q : PQ} {h : HP} {x1 : Int} (o1 : WR (rmC h 10)) (k : Q (some (vi ((qBoards (rmC h 10) x1).1))) (hs h 0 0 ((qBoards (rmC h 10) x1).2))) :
    Wp true i_C_boards 0 [vr 0, vi x1] [] h Q := by
  have w := WC_0 o1
  refine g_C_boards_0 ?_ ?_ ?_
  · intro c1; (try simp only [Int.toNat_natCast] at c1); first | (exfalso; omega) | (exact kq k (if_neg c1))
  · intro c1; (try simp only [Int.toNat_natCast] at c1); first | omega | (exfalso; omega) | exact ⟨by omega, by omega⟩ | (first | exact o1 | exact c1 | exact rStrong_lo _ _ | exact rLeast_lo _ _ | exact rWant_lo _ _)
  · intro c1; (try simp only [Int.toNat_natCast] at c1); first | (exfalso; omega) | (exact kq k (if_pos c1))

theorem g_M_boards_0 {Q : PQ} {h : HP} {x1 : Int} 
    (k1 : ¬ (x1 = 0 ∨ x1 = 1) → Q (some (vi (-1))) (hs h 103 2 1))
    (o2 : (x1 = 0 ∨ x1 = 1) → WR (rmM h 0))
    (o3 : (x1 = 0 ∨ x1 = 1) → x1 = 0 ∨ x1 = 1)
    (k4 : (x1 = 0 ∨ x1 = 1) → Q (some (vi (rBoards (rmM h 0) x1))) (hs h 103 2 0)) :
    Wp true i_M_boards 0 [vr 103, vi x1] [] h Q := by
  refine r_iload_n (v := x1) f_290_0 rfl ?_
  refine r_calls (as := [vi x1]) (st' := []) (ls0 := [vi x1]) f_290_1 (by decide) (by decide) rfl rfl (Nat.le_of_ble_eq_true rfl) (Nat.le_of_ble_eq_true rfl) rfl ?_
  refine c_M_isLand  ?_
  show Wp true i_M_boards 4 [vr 103, vi x1] [vi (bi (x1 = 0 ∨ x1 = 1))] h Q
  refine r_br (t := 19) f_290_4 rfl cb_bf (fun c1 => ?_) (fun c1 => ?_)
  · refine r_aload_n (v := 103) f_290_19 rfl (by decide) ?_
    refine r_iconst f_290_20 (by decide) ?_
    refine r_callv (as := [vr 103, vi 1]) (st' := []) (ls0 := [vr 103, vi 1]) f_290_21 (by decide) rfl rfl (Nat.le_of_ble_eq_true rfl) (Nat.le_of_ble_eq_true rfl) ⟨_, _, rfl, rfl⟩ rfl ?_
    refine c_M_refuse  ?_
    show Wp true i_M_boards 24 [vr 103, vi x1] [vi (-1)] (hs h 103 2 1) Q
    exact r_reti f_290_24 rfl (k1 c1)
  · have c1 := Decidable.not_not.mp c1
    refine r_aload_n (v := 103) f_290_7 rfl (by decide) ?_
    refine r_aload_n (v := 103) f_290_8 rfl (by decide) ?_
    refine r_iload_n (v := x1) f_290_9 rfl ?_
    refine r_callv (as := [vr 103, vi x1]) (st' := [vr 103]) (ls0 := [vr 103, vi x1, vr 9999, vr 9999, vr 9999]) f_290_10 (by decide) rfl rfl (Nat.le_of_ble_eq_true rfl) (Nat.le_of_ble_eq_true rfl) ⟨_, _, rfl, rfl⟩ rfl ?_
    refine c_M_boardsOf (o2 c1) (o3 c1) ?_
    show Wp true i_M_boards 13 [vr 103, vi x1] [vi (rBoards (rmM h 0) x1), vr 103] h Q
    refine r_callv (as := [vr 103, vi (rBoards (rmM h 0) x1)]) (st' := []) (ls0 := [vr 103, vi (rBoards (rmM h 0) x1)]) f_290_13 (by decide) rfl rfl (Nat.le_of_ble_eq_true rfl) (Nat.le_of_ble_eq_true rfl) ⟨_, _, rfl, rfl⟩ rfl ?_
    refine c_M_gives  ?_
    show Wp true i_M_boards 16 [vr 103, vi x1] [vi (rBoards (rmM h 0) x1)] (hs h 103 2 0) Q
    refine r_goto (t := 24) f_290_16 rfl ?_
    exact r_reti f_290_24 rfl (k4 c1)

theorem c_M_boards {Q : PQ} {h : HP} {x1 : Int} (o1 : WR (rmM h 0)) (k : Q (some (vi ((qBoards (rmM h 0) x1).1))) (hs h 103 2 ((qBoards (rmM h 0) x1).2))) :
    Wp true i_M_boards 0 [vr 103, vi x1] [] h Q := by
  have w := WM_0 o1
  refine g_M_boards_0 ?_ ?_ ?_ ?_
  · intro c1; (try simp only [Int.toNat_natCast] at c1); first | (exfalso; omega) | (exact kq k (if_neg c1))
  · intro c1; (try simp only [Int.toNat_natCast] at c1); first | omega | (exfalso; omega) | exact ⟨by omega, by omega⟩ | (exact o1)
  · intro c1; (try simp only [Int.toNat_natCast] at c1); first | omega | (exfalso; omega) | exact ⟨by omega, by omega⟩ | (exact o1)
  · intro c1; (try simp only [Int.toNat_natCast] at c1); first | (exfalso; omega) | (exact kq k (if_pos c1))

theorem A_boards {n : Nat} {h : HP} {x1 : Int} (hR : Rel n h) : Agree n h i_C_boards i_M_boards [vr 0, vi x1] [vr 103, vi x1] := by
  have s := hR.2.2.2.2.2.1
  have hW := s.2.1
  rw [s.1] at hW
  refine ag_q (v := vi (qBoards (rmC h 10) x1).1) (st := (qBoards (rmC h 10) x1).2) hR (fun Q k => c_C_boards s.2.1 k) (fun Q k => c_M_boards (by rw [rm_q]; exact hW) ?_)
  rw [rm_q, ← s.1]
  exact k
