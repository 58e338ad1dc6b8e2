theorem mR_0 (h : HP) : rmM h 0 0 0 = h 104 0 ∧ rmM h 0 0 1 = h 104 1 ∧ rmM h 0 0 2 = h 104 3 ∧ rmM h 0 0 3 = h 104 2 ∧ rmM h 0 0 4 = h 104 4 ∧ rmM h 0 0 5 = h 104 5 ∧ rmM h 0 0 6 = h 104 6 := ⟨rfl, rfl, rfl, rfl, rfl, rfl, rfl⟩
theorem mR_1 {h : HP} {r : Nat} (hr : (r : Int) < h 104 1) : rmM h 0 1 r = h 104 (8 + r) := by simp [rmM, hr]
theorem mR_t {h : HP} {i : Nat} (hi : (i : Int) < h 104 2) : rmM h 0 2 i = h 104 (15 + 6 * i) ∧ rmM h 0 3 i = h 104 (15 + 6 * i + 1) ∧ rmM h 0 4 i = h 104 (15 + 6 * i + 2) ∧ rmM h 0 5 i = h 104 (15 + 6 * i + 3) ∧ rmM h 0 6 i = h 104 (15 + 6 * i + 4) ∧ rmM h 0 7 i = h 104 (15 + 6 * i + 5) := by simp [rmM, hi]
theorem WM_0 {h : HP} (W : WR (rmM h 0)) : 0 ≤ h 104 0 ∧ h 104 0 ≤ 9 ∧ 0 ≤ h 104 1 ∧ h 104 1 ≤ 7 ∧ 0 ≤ h 104 3 ∧ h 104 3 ≤ 9 ∧ 0 ≤ h 104 2 ∧ h 104 2 ≤ 10 := W.1
theorem rOn_self {R : HP} (W : WR R) {t : Nat} (ht : (t : Int) < R 0 3) : rOn R (R 2 t) (R 3 t) = t := by
  have key : ∀ (d i : Nat), i ≤ t → t < i + d → (i + d : Int) ≤ R 0 3 → fnd (fun j => R 2 j = R 2 t ∧ R 3 j = R 3 t) d i = t := by
    intro d
    induction d with
    | zero => intro i h1 h2; omega
    | succ d ih =>
      intro i h1 h2 h3
      by_cases e : i = t
      · subst e; exact fnd_h ⟨rfl, rfl⟩
      · rw [fnd_s (W.2.2.2.1 i t (by omega) ht)]
        exact ih (i + 1) (by omega) (by omega) (by omega)
  exact key (R 0 3).toNat 0 (by omega) (by omega) (by omega)
theorem rLand_self {R : HP} (W : WR R) {t : Nat} (ht : (t : Int) < R 0 3) : rLand R (R 2 t) (R 3 t) = rHo R t := by
  unfold rLand
  rw [rOn_self W ht, if_pos (by omega), Int.toNat_natCast]
theorem sumF_add {f g : Nat → Int} : ∀ (d i : Nat), sumF (fun j => f j + g j) d i = sumF f d i + sumF g d i
  | 0, _ => rfl
  | d + 1, i => by simp only [sumF, sumF_add d (i + 1)]; omega
def rAll (R : HP) (l : Int) : Int := sumF (fun i => rWo R l i) (R 0 3).toNat 0
theorem rAll_eq {R : HP} (W : WR R) (l : Int) : rAll R l = rVal R 0 l + rVal R 1 l := by
  unfold rAll rVal
  rw [← sumF_add]
  apply sumF_congr
  intro j _ hj
  rcases rHo_01 W (t := j) (by omega) with e | e
  · simp [e]
  · simp [e]
theorem rAll_rg {R : HP} (W : WR R) (l : Int) : 0 ≤ rAll R l ∧ rAll R l ≤ 990 := by
  have w0 := W.1
  have := sumF_rng (f := fun i => rWo R l i) (a := 0) (b := 99) (R 0 3).toNat 0 (fun j _ hj => rWo_rg W (by omega) l)
  unfold rAll
  omega

theorem g_M_is_0 {Q : PQ} {h : HP} {x1 : Int} 
    (k1 : ¬ x1 = 0 → Q (some (vi 0)) (hs h 103 2 x1))
    (k2 : x1 = 0 → Q (some (vi 1)) (hs h 103 2 x1)) :
    Wp true i_M_is 0 [vr 103, vi x1] [] h Q := by
  refine r_aload_n (v := 103) f_226_0 rfl (by decide) ?_
  refine r_iload_n (v := x1) f_226_1 rfl ?_
  refine r_puti f_226_2 rfl (by decide) ?_
  refine r_iload_n (v := x1) f_226_5 rfl ?_
  refine r_br (t := 13) f_226_6 rfl cb_ne (fun c1 => ?_) (fun c1 => ?_)
  · refine r_iconst f_226_13 (by decide) ?_
    exact r_retz f_226_14 rfl (by decide) (k1 c1)
  · have c1 := Decidable.not_not.mp c1
    refine r_iconst f_226_9 (by decide) ?_
    refine r_goto (t := 14) f_226_10 rfl ?_
    exact r_retz f_226_14 rfl (by decide) (k2 c1)

theorem c_M_is {Q : PQ} {h : HP} {x1 : Int} (k : Q (some (vi (bi ((x1 : Int) = 0)))) (hs h 103 2 x1)) :
    Wp true i_M_is 0 [vr 103, vi x1] [] h Q := by
  refine g_M_is_0 ?_ ?_
  · intro c1; (try simp only [Int.toNat_natCast] at c1); first | (exfalso; omega) | (exact kf k c1)
  · intro c1; (try simp only [Int.toNat_natCast] at c1); first | (exfalso; omega) | (exact kt k c1)

theorem g_M_refuse_0 {Q : PQ} {h : HP} {x1 : Int} 
    (k1 : Q (some (vi (-1))) (hs h 103 2 x1)) :
    Wp true i_M_refuse 0 [vr 103, vi x1] [] h Q := by
  refine r_aload_n (v := 103) f_227_0 rfl (by decide) ?_
  refine r_iload_n (v := x1) f_227_1 rfl ?_
  refine r_puti f_227_2 rfl (by decide) ?_
  refine r_iconst f_227_5 (by decide) ?_
  exact r_reti f_227_6 rfl k1

theorem c_M_refuse {Q : PQ} {h : HP} {x1 : Int} (k : Q (some (vi (-1))) (hs h 103 2 x1)) :
    Wp true i_M_refuse 0 [vr 103, vi x1] [] h Q := by
  refine g_M_refuse_0 ?_
  · intros; first | exact k | (refine kv k ?_; omega) | (refine kv k ?_; simp only [*, if_true, if_false]; try omega) | (refine kv k ?_; split <;> omega)

theorem g_M_gives_0 {Q : PQ} {h : HP} {x1 : Int} 
    (k1 : Q (some (vi x1)) (hs h 103 2 0)) :
    Wp true i_M_gives 0 [vr 103, vi x1] [] h Q := by
  refine r_aload_n (v := 103) f_228_0 rfl (by decide) ?_
  refine r_iconst f_228_1 (by decide) ?_
  refine r_puti f_228_2 rfl (by decide) ?_
  refine r_iload_n (v := x1) f_228_5 rfl ?_
  exact r_reti f_228_6 rfl k1

theorem c_M_gives {Q : PQ} {h : HP} {x1 : Int} (k : Q (some (vi x1)) (hs h 103 2 0)) :
    Wp true i_M_gives 0 [vr 103, vi x1] [] h Q := by
  refine g_M_gives_0 ?_
  · intros; first | exact k | (refine kv k ?_; omega) | (refine kv k ?_; simp only [*, if_true, if_false]; try omega) | (refine kv k ?_; split <;> omega)

theorem g_M_isTray_0 {Q : PQ} {h : HP} {x0 : Int} 
    (k1 : x0 < 0 → Q (some (vi 0)) h)
    (k2 : ¬ x0 < 0 → 4 ≤ x0 → Q (some (vi 0)) h)
    (k3 : ¬ x0 < 0 → ¬ 4 ≤ x0 → Q (some (vi 1)) h) :
    Wp true i_M_isTray 0 [vi x0] [] h Q := by
  refine r_iload_n (v := x0) f_231_0 rfl ?_
  refine r_br (t := 13) f_231_1 rfl cb_lt (fun c1 => ?_) (fun c1 => ?_)
  · refine r_iconst f_231_13 (by decide) ?_
    exact r_retz f_231_14 rfl (by decide) (k1 c1)
  · refine r_iload_n (v := x0) f_231_4 rfl ?_
    refine r_iconst f_231_5 (by decide) ?_
    refine r_br2 (t := 13) f_231_6 rfl cb_ge (fun c2 => ?_) (fun c2 => ?_)
    · refine r_iconst f_231_13 (by decide) ?_
      exact r_retz f_231_14 rfl (by decide) (k2 c1 c2)
    · refine r_iconst f_231_9 (by decide) ?_
      refine r_goto (t := 14) f_231_10 rfl ?_
      exact r_retz f_231_14 rfl (by decide) (k3 c1 c2)

theorem c_M_isTray {Q : PQ} {h : HP} {x0 : Int} (k : Q (some (vi (bi (0 ≤ x0 ∧ x0 < 4)))) h) :
    Wp true i_M_isTray 0 [vi x0] [] h Q := by
  refine g_M_isTray_0 ?_ ?_ ?_
  · intros; exact kf k (by omega)
  · intros; exact kf k (by omega)
  · intros; exact kt k (by omega)

theorem g_M_isLand_0 {Q : PQ} {h : HP} {x0 : Int} 
    (k1 : x0 = 0 → Q (some (vi 1)) h)
    (k2 : ¬ x0 = 0 → ¬ x0 = 1 → Q (some (vi 0)) h)
    (k3 : ¬ x0 = 0 → x0 = 1 → Q (some (vi 1)) h) :
    Wp true i_M_isLand 0 [vi x0] [] h Q := by
  refine r_iload_n (v := x0) f_270_0 rfl ?_
  refine r_br (t := 9) f_270_1 rfl cb_eq (fun c1 => ?_) (fun c1 => ?_)
  · refine r_iconst f_270_9 (by decide) ?_
    refine r_goto (t := 14) f_270_10 rfl ?_
    exact r_retz f_270_14 rfl (by decide) (k1 c1)
  · refine r_iload_n (v := x0) f_270_4 rfl ?_
    refine r_iconst f_270_5 (by decide) ?_
    refine r_br2 (t := 13) f_270_6 rfl cb_ne (fun c2 => ?_) (fun c2 => ?_)
    · refine r_iconst f_270_13 (by decide) ?_
      exact r_retz f_270_14 rfl (by decide) (k2 c1 c2)
    · have c2 := Decidable.not_not.mp c2
      refine r_iconst f_270_9 (by decide) ?_
      refine r_goto (t := 14) f_270_10 rfl ?_
      exact r_retz f_270_14 rfl (by decide) (k3 c1 c2)

theorem c_M_isLand {Q : PQ} {h : HP} {x0 : Int} (k : Q (some (vi (bi (x0 = 0 ∨ x0 = 1)))) h) :
    Wp true i_M_isLand 0 [vi x0] [] h Q := by
  refine g_M_isLand_0 ?_ ?_ ?_
  · intros; exact kt k (by omega)
  · intros; exact kf k (by omega)
  · intros; exact kt k (by omega)

theorem g_M_isFrom_0 {Q : PQ} {h : HP} {y0 : Int} {y2 : Int} {y4 : Int} 
    (k1 : y0 < y2 → Q (some (vi 0)) h)
    (k2 : ¬ y0 < y2 → y4 < y0 → Q (some (vi 0)) h)
    (k3 : ¬ y0 < y2 → ¬ y4 < y0 → Q (some (vi 1)) h) :
    Wp true i_M_isFrom 0 [vj y0, vr 9999, vj y2, vr 9999, vj y4, vr 9999] [] h Q := by
  refine r_lload_n (v := y0) f_238_0 rfl ?_
  refine r_lload_n (v := y2) f_238_1 rfl ?_
  refine r_lcmp f_238_2 ?_
  refine r_br (t := 17) f_238_3 rfl lc_lt (fun c1 => ?_) (fun c1 => ?_)
  · refine r_iconst f_238_17 (by decide) ?_
    exact r_retz f_238_18 rfl (by decide) (k1 c1)
  · refine r_lload_n (v := y0) f_238_6 rfl ?_
    refine r_lload (v := y4) f_238_7 rfl ?_
    refine r_lcmp f_238_9 ?_
    refine r_br (t := 17) f_238_10 rfl lc_gt (fun c2 => ?_) (fun c2 => ?_)
    · refine r_iconst f_238_17 (by decide) ?_
      exact r_retz f_238_18 rfl (by decide) (k2 c1 c2)
    · refine r_iconst f_238_13 (by decide) ?_
      refine r_goto (t := 18) f_238_14 rfl ?_
      exact r_retz f_238_18 rfl (by decide) (k3 c1 c2)

theorem c_M_isFrom {Q : PQ} {h : HP} {y0 : Int} {y2 : Int} {y4 : Int} (k : Q (some (vi (bi (y2 ≤ y0 ∧ y0 ≤ y4)))) h) :
    Wp true i_M_isFrom 0 [vj y0, vr 9999, vj y2, vr 9999, vj y4, vr 9999] [] h Q := by
  refine g_M_isFrom_0 ?_ ?_ ?_
  · intros; exact kf k (by omega)
  · intros; exact kf k (by omega)
  · intros; exact kt k (by omega)

theorem g_M_isRow_0 {Q : PQ} {h : HP} {x1 : Int} 
    (k1 : x1 < 0 → Q (some (vi 0)) h)
    (k2 : ¬ x1 < 0 → h 104 1 ≤ x1 → Q (some (vi 0)) h)
    (k3 : ¬ x1 < 0 → ¬ h 104 1 ≤ x1 → Q (some (vi 1)) h) :
    Wp true i_M_isRow 0 [vr 103, vi x1] [] h Q := by
  refine r_iload_n (v := x1) f_271_0 rfl ?_
  refine r_br (t := 18) f_271_1 rfl cb_lt (fun c1 => ?_) (fun c1 => ?_)
  · refine r_iconst f_271_18 (by decide) ?_
    exact r_retz f_271_19 rfl (by decide) (k1 c1)
  · refine r_iload_n (v := x1) f_271_4 rfl ?_
    refine r_aload_n (v := 103) f_271_5 rfl (by decide) ?_
    refine r_getr (q := 104) f_271_6 rfl (by decide) (Or.inl rfl) rfl ?_
    refine r_iconst f_271_9 (by decide) ?_
    refine r_iaload (n := 3000) (v := h 104 1) f_271_10 ⟨rfl, rfl⟩ (by decide) rfl ?_
    refine r_br2 (t := 18) f_271_11 rfl cb_ge (fun c2 => ?_) (fun c2 => ?_)
    · refine r_iconst f_271_18 (by decide) ?_
      exact r_retz f_271_19 rfl (by decide) (k2 c1 c2)
    · refine r_iconst f_271_14 (by decide) ?_
      refine r_goto (t := 19) f_271_15 rfl ?_
      exact r_retz f_271_19 rfl (by decide) (k3 c1 c2)

theorem c_M_isRow {Q : PQ} {h : HP} {x1 : Int} (k : Q (some (vi (bi (0 ≤ x1 ∧ x1 < h 104 1)))) h) :
    Wp true i_M_isRow 0 [vr 103, vi x1] [] h Q := by
  refine g_M_isRow_0 ?_ ?_ ?_
  · intros; exact kf k (by omega)
  · intros; exact kf k (by omega)
  · intros; exact kt k (by omega)

theorem g_M_isBoard_0 {Q : PQ} {h : HP} {x1 : Int} {x2 : Int} 
    (k1 : x1 < 0 → Q (some (vi 0)) h)
    (k2 : ¬ x1 < 0 → h 104 0 ≤ x1 → Q (some (vi 0)) h)
    (k3 : ¬ x1 < 0 → ¬ h 104 0 ≤ x1 → ¬ (0 ≤ x2 ∧ x2 < h 104 1) → Q (some (vi 0)) h)
    (k4 : ¬ x1 < 0 → ¬ h 104 0 ≤ x1 → (0 ≤ x2 ∧ x2 < h 104 1) → Q (some (vi 1)) h) :
    Wp true i_M_isBoard 0 [vr 103, vi x1, vi x2] [] h Q := by
  refine r_iload_n (v := x1) f_272_0 rfl ?_
  refine r_br (t := 26) f_272_1 rfl cb_lt (fun c1 => ?_) (fun c1 => ?_)
  · refine r_iconst f_272_26 (by decide) ?_
    exact r_retz f_272_27 rfl (by decide) (k1 c1)
  · refine r_iload_n (v := x1) f_272_4 rfl ?_
    refine r_aload_n (v := 103) f_272_5 rfl (by decide) ?_
    refine r_getr (q := 104) f_272_6 rfl (by decide) (Or.inl rfl) rfl ?_
    refine r_iconst f_272_9 (by decide) ?_
    refine r_iaload (n := 3000) (v := h 104 0) f_272_10 ⟨rfl, rfl⟩ (by decide) rfl ?_
    refine r_br2 (t := 26) f_272_11 rfl cb_ge (fun c2 => ?_) (fun c2 => ?_)
    · refine r_iconst f_272_26 (by decide) ?_
      exact r_retz f_272_27 rfl (by decide) (k2 c1 c2)
    · refine r_aload_n (v := 103) f_272_14 rfl (by decide) ?_
      refine r_iload_n (v := x2) f_272_15 rfl ?_
      refine r_callv (as := [vr 103, vi x2]) (st' := []) (ls0 := [vr 103, vi x2]) f_272_16 (by decide) rfl rfl (Nat.le_of_ble_eq_true rfl) (Nat.le_of_ble_eq_true rfl) ⟨_, _, rfl, rfl⟩ rfl ?_
      refine c_M_isRow  ?_
      show Wp true i_M_isBoard 19 [vr 103, vi x1, vi x2] [vi (bi (0 ≤ x2 ∧ x2 < h 104 1))] h Q
      refine r_br (t := 26) f_272_19 rfl cb_bf (fun c3 => ?_) (fun c3 => ?_)
      · refine r_iconst f_272_26 (by decide) ?_
        exact r_retz f_272_27 rfl (by decide) (k3 c1 c2 c3)
      · have c3 := Decidable.not_not.mp c3
        refine r_iconst f_272_22 (by decide) ?_
        refine r_goto (t := 27) f_272_23 rfl ?_
        exact r_retz f_272_27 rfl (by decide) (k4 c1 c2 c3)

theorem c_M_isBoard {Q : PQ} {h : HP} {x1 : Int} {x2 : Int} (k : Q (some (vi (bi (0 ≤ x1 ∧ x1 < h 104 0 ∧ 0 ≤ x2 ∧ x2 < h 104 1)))) h) :
    Wp true i_M_isBoard 0 [vr 103, vi x1, vi x2] [] h Q := by
  refine g_M_isBoard_0 ?_ ?_ ?_ ?_
  · intros; exact kf k (by omega)
  · intros; exact kf k (by omega)
  · intros; exact kf k (by omega)
  · intros; exact kt k (by omega)

theorem g_M_isThing_0 {Q : PQ} {h : HP} {x1 : Int} 
    (k1 : x1 < 0 → Q (some (vi 0)) h)
    (k2 : ¬ x1 < 0 → h 104 2 ≤ x1 → Q (some (vi 0)) h)
    (k3 : ¬ x1 < 0 → ¬ h 104 2 ≤ x1 → Q (some (vi 1)) h) :
    Wp true i_M_isThing 0 [vr 103, vi x1] [] h Q := by
  refine r_iload_n (v := x1) f_273_0 rfl ?_
  refine r_br (t := 18) f_273_1 rfl cb_lt (fun c1 => ?_) (fun c1 => ?_)
  · refine r_iconst f_273_18 (by decide) ?_
    exact r_retz f_273_19 rfl (by decide) (k1 c1)
  · refine r_iload_n (v := x1) f_273_4 rfl ?_
    refine r_aload_n (v := 103) f_273_5 rfl (by decide) ?_
    refine r_getr (q := 104) f_273_6 rfl (by decide) (Or.inl rfl) rfl ?_
    refine r_iconst f_273_9 (by decide) ?_
    refine r_iaload (n := 3000) (v := h 104 2) f_273_10 ⟨rfl, rfl⟩ (by decide) rfl ?_
    refine r_br2 (t := 18) f_273_11 rfl cb_ge (fun c2 => ?_) (fun c2 => ?_)
    · refine r_iconst f_273_18 (by decide) ?_
      exact r_retz f_273_19 rfl (by decide) (k2 c1 c2)
    · refine r_iconst f_273_14 (by decide) ?_
      refine r_goto (t := 19) f_273_15 rfl ?_
      exact r_retz f_273_19 rfl (by decide) (k3 c1 c2)

theorem c_M_isThing {Q : PQ} {h : HP} {x1 : Int} (k : Q (some (vi (bi (0 ≤ x1 ∧ x1 < h 104 2)))) h) :
    Wp true i_M_isThing 0 [vr 103, vi x1] [] h Q := by
  refine g_M_isThing_0 ?_ ?_ ?_
  · intros; exact kf k (by omega)
  · intros; exact kf k (by omega)
  · intros; exact kt k (by omega)

theorem g_M_isIn_0 {Q : PQ} {h : HP} {x1 : Int} {x2 : Int} 
    (k1 : ¬ o_and (o_shr x1 x2) 1 = 1 → Q (some (vi 0)) h)
    (k2 : o_and (o_shr x1 x2) 1 = 1 → Q (some (vi 1)) h) :
    Wp true i_M_isIn 0 [vr 103, vi x1, vi x2] [] h Q := by
  refine r_iload_n (v := x1) f_274_0 rfl ?_
  refine r_iload_n (v := x2) f_274_1 rfl ?_
  refine r_ishr f_274_2 ?_
  refine r_iconst f_274_3 (by decide) ?_
  refine r_iand f_274_4 ?_
  refine r_iconst f_274_5 (by decide) ?_
  refine r_br2 (t := 13) f_274_6 rfl cb_ne (fun c1 => ?_) (fun c1 => ?_)
  · refine r_iconst f_274_13 (by decide) ?_
    exact r_retz f_274_14 rfl (by decide) (k1 c1)
  · have c1 := Decidable.not_not.mp c1
    refine r_iconst f_274_9 (by decide) ?_
    refine r_goto (t := 14) f_274_10 rfl ?_
    exact r_retz f_274_14 rfl (by decide) (k2 c1)

theorem c_M_isIn {Q : PQ} {h : HP} {x1 : Int} {x2 : Int} (k : Q (some (vi (bi (o_and (o_shr x1 x2) 1 = 1)))) h) :
    Wp true i_M_isIn 0 [vr 103, vi x1, vi x2] [] h Q := by
  refine g_M_isIn_0 ?_ ?_
  · intros; exact kf k (by omega)
  · intros; exact kt k (by omega)

theorem g_M_thingRow_0 {Q : PQ} {h : HP} {x0 : Int} 
    (o1 : -2147483648 ≤ 6 * x0 ∧ 6 * x0 ≤ 2147483647)
    (o2 : -2147483648 ≤ 15 + (6 * x0) ∧ 15 + (6 * x0) ≤ 2147483647)
    (k3 : Q (some (vi (15 + (6 * x0)))) h) :
    Wp true i_M_thingRow 0 [vi x0] [] h Q := by
  refine r_bipush f_269_0 (by decide) ?_
  refine r_bipush f_269_2 (by decide) ?_
  refine r_iload_n (v := x0) f_269_4 rfl ?_
  refine r_imul (u := 6 * x0) f_269_5 rfl o1 ?_
  refine r_iadd (u := 15 + (6 * x0)) f_269_6 rfl o2 ?_
  exact r_reti f_269_7 rfl k3

theorem c_M_thingRow {Q : PQ} {h : HP} {x0 : Int} (o1 : 0 ≤ x0 ∧ x0 < 100) (k : Q (some (vi (15 + 6 * x0))) h) :
    Wp true i_M_thingRow 0 [vi x0] [] h Q := by
  refine g_M_thingRow_0 ?_ ?_ ?_
  · intros; first | omega | exact ⟨by omega, by omega⟩
  · intros; first | omega | exact ⟨by omega, by omega⟩
  · intros; first | exact k | (refine kv k ?_; omega) | (refine kv k ?_; simp only [*, if_true, if_false]; try omega) | (refine kv k ?_; split <;> omega)

theorem g_M_lineOf_0 {Q : PQ} {h : HP} {x1 : Int} 
    (o1 : -2147483648 ≤ 8 + x1 ∧ 8 + x1 ≤ 2147483647)
    (o2 : 0 ≤ 8 + x1 ∧ 8 + x1 < 3000)
    (k3 : Q (some (vi (h 104 (8 + x1).toNat))) h) :
    Wp true i_M_lineOf 0 [vr 103, vi x1] [] h Q := by
  refine r_aload_n (v := 103) f_275_0 rfl (by decide) ?_
  refine r_getr (q := 104) f_275_1 rfl (by decide) (Or.inl rfl) rfl ?_
  refine r_bipush f_275_4 (by decide) ?_
  refine r_iload_n (v := x1) f_275_6 rfl ?_
  refine r_iadd (u := 8 + x1) f_275_7 rfl o1 ?_
  refine r_iaload (n := 3000) (v := h 104 (8 + x1).toNat) f_275_8 ⟨rfl, rfl⟩ o2 rfl ?_
  exact r_reti f_275_9 rfl k3

theorem c_M_lineOf {Q : PQ} {h : HP} {x1 : Int} (o1 : WR (rmM h 0)) (o2 : 0 ≤ x1 ∧ x1 < h 104 1) (k : Q (some (vi (rmM h 0 1 x1.toNat))) h) :
    Wp true i_M_lineOf 0 [vr 103, vi x1] [] h Q := by
  have w := WM_0 o1
  have e := mR_1 (h := h) (r := x1.toNat) (by omega)
  have e2 : 8 + x1.toNat = (8 + x1).toNat := by omega
  rw [e2] at e
  simp only [e] at k
  refine g_M_lineOf_0 ?_ ?_ ?_
  · intros; first | omega | exact ⟨by omega, by omega⟩
  · intros; first | omega | exact ⟨by omega, by omega⟩
  · intros; first | exact k | (refine kv k ?_; omega) | (refine kv k ?_; simp only [*, if_true, if_false]; try omega) | (refine kv k ?_; split <;> omega)

theorem g_M_thingOn_0 {Q : PQ} {h : HP} {x1 : Int} {x2 : Int} 
    (k1 : Wp true i_M_thingOn 2 [vr 103, vi x1, vi x2, vi 0] [] h Q) :
    Wp true i_M_thingOn 0 [vr 103, vi x1, vi x2, vr 9999] [] h Q := by
  refine r_iconst f_276_0 (by decide) ?_
  refine r_istore_n (ls' := [vr 103, vi x1, vi x2, vi 0]) f_276_1 (Nat.le_of_ble_eq_true rfl) rfl ?_
  exact k1

theorem g_M_thingOn_2 {Q : PQ} {h : HP} {x1 : Int} {x2 : Int} {x3 : Int} 
    (k1 : h 104 2 ≤ x3 → Q (some (vi (-1))) h)
    (o2 : ¬ h 104 2 ≤ x3 → 0 ≤ x3 ∧ x3 < 100)
    (o3 : ¬ h 104 2 ≤ x3 → 0 ≤ 15 + 6 * x3 ∧ 15 + 6 * x3 < 3000)
    (o4 : ¬ h 104 2 ≤ x3 → ¬ h 104 (15 + 6 * x3).toNat = x1 → -2147483648 ≤ x3 + 1 ∧ x3 + 1 ≤ 2147483647)
    (k5 : ¬ h 104 2 ≤ x3 → ¬ h 104 (15 + 6 * x3).toNat = x1 → Wp true i_M_thingOn 2 [vr 103, vi x1, vi x2, vi (x3 + 1)] [] h Q)
    (o6 : ¬ h 104 2 ≤ x3 → h 104 (15 + 6 * x3).toNat = x1 → -2147483648 ≤ (15 + 6 * x3) + 1 ∧ (15 + 6 * x3) + 1 ≤ 2147483647)
    (o7 : ¬ h 104 2 ≤ x3 → h 104 (15 + 6 * x3).toNat = x1 → 0 ≤ (15 + 6 * x3) + 1 ∧ (15 + 6 * x3) + 1 < 3000)
    (o8 : ¬ h 104 2 ≤ x3 → h 104 (15 + 6 * x3).toNat = x1 → ¬ h 104 ((15 + 6 * x3) + 1).toNat = x2 → -2147483648 ≤ x3 + 1 ∧ x3 + 1 ≤ 2147483647)
    (k9 : ¬ h 104 2 ≤ x3 → h 104 (15 + 6 * x3).toNat = x1 → ¬ h 104 ((15 + 6 * x3) + 1).toNat = x2 → Wp true i_M_thingOn 2 [vr 103, vi x1, vi x2, vi (x3 + 1)] [] h Q)
    (k10 : ¬ h 104 2 ≤ x3 → h 104 (15 + 6 * x3).toNat = x1 → h 104 ((15 + 6 * x3) + 1).toNat = x2 → Q (some (vi x3)) h) :
    Wp true i_M_thingOn 2 [vr 103, vi x1, vi x2, vi x3] [] h Q := by
  refine r_iload_n (v := x3) f_276_2 rfl ?_
  refine r_aload_n (v := 103) f_276_3 rfl (by decide) ?_
  refine r_getr (q := 104) f_276_4 rfl (by decide) (Or.inl rfl) rfl ?_
  refine r_iconst f_276_7 (by decide) ?_
  refine r_iaload (n := 3000) (v := h 104 2) f_276_8 ⟨rfl, rfl⟩ (by decide) rfl ?_
  refine r_br2 (t := 48) f_276_9 rfl cb_ge (fun c1 => ?_) (fun c1 => ?_)
  · refine r_iconst f_276_48 (by decide) ?_
    exact r_reti f_276_49 rfl (k1 c1)
  · refine r_aload_n (v := 103) f_276_12 rfl (by decide) ?_
    refine r_getr (q := 104) f_276_13 rfl (by decide) (Or.inl rfl) rfl ?_
    refine r_iload_n (v := x3) f_276_16 rfl ?_
    refine r_calls (as := [vi x3]) (st' := [vr 104]) (ls0 := [vi x3]) f_276_17 (by decide) (by decide) rfl rfl (Nat.le_of_ble_eq_true rfl) (Nat.le_of_ble_eq_true rfl) rfl ?_
    refine c_M_thingRow (o2 c1) ?_
    show Wp true i_M_thingOn 20 [vr 103, vi x1, vi x2, vi x3] [vi (15 + 6 * x3), vr 104] h Q
    refine r_iaload (n := 3000) (v := h 104 (15 + 6 * x3).toNat) f_276_20 ⟨rfl, rfl⟩ (o3 c1) rfl ?_
    refine r_iload_n (v := x1) f_276_21 rfl ?_
    refine r_br2 (t := 42) f_276_22 rfl cb_ne (fun c2 => ?_) (fun c2 => ?_)
    · refine r_iinc (v := x3) (w := x3 + 1) (ls' := [vr 103, vi x1, vi x2, vi (x3 + 1)]) f_276_42 rfl rfl (o4 c1 c2) rfl ?_
      refine r_goto (t := 2) f_276_45 rfl ?_
      exact (k5 c1 c2)
    · have c2 := Decidable.not_not.mp c2
      refine r_aload_n (v := 103) f_276_25 rfl (by decide) ?_
      refine r_getr (q := 104) f_276_26 rfl (by decide) (Or.inl rfl) rfl ?_
      refine r_iload_n (v := x3) f_276_29 rfl ?_
      refine r_calls (as := [vi x3]) (st' := [vr 104]) (ls0 := [vi x3]) f_276_30 (by decide) (by decide) rfl rfl (Nat.le_of_ble_eq_true rfl) (Nat.le_of_ble_eq_true rfl) rfl ?_
      refine c_M_thingRow (o2 c1) ?_
      show Wp true i_M_thingOn 33 [vr 103, vi x1, vi x2, vi x3] [vi (15 + 6 * x3), vr 104] h Q
      refine r_iconst f_276_33 (by decide) ?_
      refine r_iadd (u := (15 + 6 * x3) + 1) f_276_34 rfl (o6 c1 c2) ?_
      refine r_iaload (n := 3000) (v := h 104 ((15 + 6 * x3) + 1).toNat) f_276_35 ⟨rfl, rfl⟩ (o7 c1 c2) rfl ?_
      refine r_iload_n (v := x2) f_276_36 rfl ?_
      refine r_br2 (t := 42) f_276_37 rfl cb_ne (fun c3 => ?_) (fun c3 => ?_)
      · refine r_iinc (v := x3) (w := x3 + 1) (ls' := [vr 103, vi x1, vi x2, vi (x3 + 1)]) f_276_42 rfl rfl (o8 c1 c2 c3) rfl ?_
        refine r_goto (t := 2) f_276_45 rfl ?_
        exact (k9 c1 c2 c3)
      · have c3 := Decidable.not_not.mp c3
        refine r_iload_n (v := x3) f_276_40 rfl ?_
        exact r_reti f_276_41 rfl (k10 c1 c2 c3)

theorem c_M_thingOn {Q : PQ} {h : HP} {x1 : Int} {x2 : Int} (o1 : WR (rmM h 0)) (k : Q (some (vi (rOn (rmM h 0) x1 x2))) h) :
    Wp true i_M_thingOn 0 [vr 103, vi x1, vi x2, vr 9999] [] h Q := by
  have w := WM_0 o1
  refine g_M_thingOn_0 ?_
  have key : ∀ (d i : Nat), (i : Int) + d = h 104 2 → Q (some (vi (fnd (fun j => rmM h 0 2 j = x1 ∧ rmM h 0 3 j = x2) d i))) h → Wp true i_M_thingOn 2 [vr 103, vi x1, vi x2, vi (i : Int)] [] h Q := by
    intro d
    induction d with
    | zero =>
      intro i e kk
      refine g_M_thingOn_2 ?_ ?_ ?_ ?_ ?_ ?_ ?_ ?_ ?_ ?_
      · intro c1; (try simp only [Int.toNat_natCast] at c1); first | (exfalso; omega) | (exact kk)
      · intro c1; (try simp only [Int.toNat_natCast] at c1); first | omega | (exfalso; omega) | exact ⟨by omega, by omega⟩ | (omega)
      · intro c1; (try simp only [Int.toNat_natCast] at c1); first | omega | (exfalso; omega) | exact ⟨by omega, by omega⟩ | (omega)
      · intro c1 c2; (try simp only [Int.toNat_natCast] at c1 c2); first | omega | (exfalso; omega) | exact ⟨by omega, by omega⟩ | (omega)
      · intro c1 c2; (try simp only [Int.toNat_natCast] at c1 c2); first | (exfalso; omega) | (skip)
      · intro c1 c2; (try simp only [Int.toNat_natCast] at c1 c2); first | omega | (exfalso; omega) | exact ⟨by omega, by omega⟩ | (omega)
      · intro c1 c2; (try simp only [Int.toNat_natCast] at c1 c2); first | omega | (exfalso; omega) | exact ⟨by omega, by omega⟩ | (omega)
      · intro c1 c2 c3; (try simp only [Int.toNat_natCast] at c1 c2 c3); first | omega | (exfalso; omega) | exact ⟨by omega, by omega⟩ | (omega)
      · intro c1 c2 c3; (try simp only [Int.toNat_natCast] at c1 c2 c3); first | (exfalso; omega) | (skip)
      · intro c1 c2 c3; (try simp only [Int.toNat_natCast] at c1 c2 c3); first | (exfalso; omega) | (skip)
    | succ d ih =>
      intro i e kk
      obtain ⟨e1, e2, -⟩ := mR_t (h := h) (i := i) (by omega)
      have e3 : (15 + 6 * (i : Int)).toNat = 15 + 6 * i := by omega
      have e4 : (15 + 6 * (i : Int) + 1).toNat = 15 + 6 * i + 1 := by omega
      refine g_M_thingOn_2 ?_ ?_ ?_ ?_ ?_ ?_ ?_ ?_ ?_ ?_
      · intro c1; (try simp only [Int.toNat_natCast] at c1); first | (exfalso; omega) | (skip)
      · intro c1; (try simp only [Int.toNat_natCast] at c1); first | omega | (exfalso; omega) | exact ⟨by omega, by omega⟩ | (omega)
      · intro c1; (try simp only [Int.toNat_natCast] at c1); first | omega | (exfalso; omega) | exact ⟨by omega, by omega⟩ | (omega)
      · intro c1 c2; (try simp only [Int.toNat_natCast] at c1 c2); first | omega | (exfalso; omega) | exact ⟨by omega, by omega⟩ | (omega)
      · intro c1 c2; (try simp only [Int.toNat_natCast] at c1 c2); first | (exfalso; omega) | (rw [e3] at c2; refine ih (i + 1) (by omega) ?_; rw [fnd_s (by rw [e1, e2]; intro q; exact c2 q.1)] at kk; exact kk)
      · intro c1 c2; (try simp only [Int.toNat_natCast] at c1 c2); first | omega | (exfalso; omega) | exact ⟨by omega, by omega⟩ | (omega)
      · intro c1 c2; (try simp only [Int.toNat_natCast] at c1 c2); first | omega | (exfalso; omega) | exact ⟨by omega, by omega⟩ | (omega)
      · intro c1 c2 c3; (try simp only [Int.toNat_natCast] at c1 c2 c3); first | omega | (exfalso; omega) | exact ⟨by omega, by omega⟩ | (omega)
      · intro c1 c2 c3; (try simp only [Int.toNat_natCast] at c1 c2 c3); first | (exfalso; omega) | (rw [e4] at c3; refine ih (i + 1) (by omega) ?_; rw [fnd_s (by rw [e1, e2]; intro q; exact c3 q.2)] at kk; exact kk)
      · intro c1 c2 c3; (try simp only [Int.toNat_natCast] at c1 c2 c3); first | (exfalso; omega) | (rw [e3] at c2; rw [e4] at c3; rw [fnd_h (by rw [e1, e2]; exact ⟨c2, c3⟩)] at kk; exact kk)
  refine key (h 104 2).toNat 0 (by omega) ?_
  exact k

theorem g_M_landOf_0 {Q : PQ} {h : HP} {x1 : Int} {x2 : Int} 
    (o1 : WR (rmM h 0))
    (k2 : rOn (rmM h 0) x1 x2 = -1 → Wp true i_M_landOf 39 [vr 103, vi x1, vi x2, vi (rOn (rmM h 0) x1 x2)] [] h Q)
    (o3 : ¬ rOn (rmM h 0) x1 x2 = -1 → 0 ≤ (rOn (rmM h 0) x1 x2) ∧ (rOn (rmM h 0) x1 x2) < 100)
    (o4 : ¬ rOn (rmM h 0) x1 x2 = -1 → -2147483648 ≤ (15 + 6 * (rOn (rmM h 0) x1 x2)) + 4 ∧ (15 + 6 * (rOn (rmM h 0) x1 x2)) + 4 ≤ 2147483647)
    (o5 : ¬ rOn (rmM h 0) x1 x2 = -1 → 0 ≤ (15 + 6 * (rOn (rmM h 0) x1 x2)) + 4 ∧ (15 + 6 * (rOn (rmM h 0) x1 x2)) + 4 < 3000)
    (k6 : ¬ rOn (rmM h 0) x1 x2 = -1 → h 104 ((15 + 6 * (rOn (rmM h 0) x1 x2)) + 4).toNat = -1 → Wp true i_M_landOf 39 [vr 103, vi x1, vi x2, vi (rOn (rmM h 0) x1 x2)] [] h Q)
    (k7 : ¬ rOn (rmM h 0) x1 x2 = -1 → ¬ h 104 ((15 + 6 * (rOn (rmM h 0) x1 x2)) + 4).toNat = -1 → Q (some (vi (h 104 ((15 + 6 * (rOn (rmM h 0) x1 x2)) + 4).toNat))) h) :
    Wp true i_M_landOf 0 [vr 103, vi x1, vi x2, vr 9999] [] h Q := by
  refine r_aload_n (v := 103) f_277_0 rfl (by decide) ?_
  refine r_iload_n (v := x1) f_277_1 rfl ?_
  refine r_iload_n (v := x2) f_277_2 rfl ?_
  refine r_callv (as := [vr 103, vi x1, vi x2]) (st' := []) (ls0 := [vr 103, vi x1, vi x2, vr 9999]) f_277_3 (by decide) rfl rfl (Nat.le_of_ble_eq_true rfl) (Nat.le_of_ble_eq_true rfl) ⟨_, _, rfl, rfl⟩ rfl ?_
  refine c_M_thingOn o1 ?_
  show Wp true i_M_landOf 6 [vr 103, vi x1, vi x2, vr 9999] [vi (rOn (rmM h 0) x1 x2)] h Q
  refine r_istore_n (ls' := [vr 103, vi x1, vi x2, vi (rOn (rmM h 0) x1 x2)]) f_277_6 (Nat.le_of_ble_eq_true rfl) rfl ?_
  refine r_iload_n (v := rOn (rmM h 0) x1 x2) f_277_7 rfl ?_
  refine r_iconst f_277_8 (by decide) ?_
  refine r_br2 (t := 39) f_277_9 rfl cb_eq (fun c1 => ?_) (fun c1 => ?_)
  · exact (k2 c1)
  · refine r_aload_n (v := 103) f_277_12 rfl (by decide) ?_
    refine r_getr (q := 104) f_277_13 rfl (by decide) (Or.inl rfl) rfl ?_
    refine r_iload_n (v := rOn (rmM h 0) x1 x2) f_277_16 rfl ?_
    refine r_calls (as := [vi (rOn (rmM h 0) x1 x2)]) (st' := [vr 104]) (ls0 := [vi (rOn (rmM h 0) x1 x2)]) f_277_17 (by decide) (by decide) rfl rfl (Nat.le_of_ble_eq_true rfl) (Nat.le_of_ble_eq_true rfl) rfl ?_
    refine c_M_thingRow (o3 c1) ?_
    show Wp true i_M_landOf 20 [vr 103, vi x1, vi x2, vi (rOn (rmM h 0) x1 x2)] [vi (15 + 6 * (rOn (rmM h 0) x1 x2)), vr 104] h Q
    refine r_iconst f_277_20 (by decide) ?_
    refine r_iadd (u := (15 + 6 * (rOn (rmM h 0) x1 x2)) + 4) f_277_21 rfl (o4 c1) ?_
    refine r_iaload (n := 3000) (v := h 104 ((15 + 6 * (rOn (rmM h 0) x1 x2)) + 4).toNat) f_277_22 ⟨rfl, rfl⟩ (o5 c1) rfl ?_
    refine r_iconst f_277_23 (by decide) ?_
    refine r_br2 (t := 39) f_277_24 rfl cb_eq (fun c2 => ?_) (fun c2 => ?_)
    · exact (k6 c1 c2)
    · refine r_aload_n (v := 103) f_277_27 rfl (by decide) ?_
      refine r_getr (q := 104) f_277_28 rfl (by decide) (Or.inl rfl) rfl ?_
      refine r_iload_n (v := rOn (rmM h 0) x1 x2) f_277_31 rfl ?_
      refine r_calls (as := [vi (rOn (rmM h 0) x1 x2)]) (st' := [vr 104]) (ls0 := [vi (rOn (rmM h 0) x1 x2)]) f_277_32 (by decide) (by decide) rfl rfl (Nat.le_of_ble_eq_true rfl) (Nat.le_of_ble_eq_true rfl) rfl ?_
      refine c_M_thingRow (o3 c1) ?_
      show Wp true i_M_landOf 35 [vr 103, vi x1, vi x2, vi (rOn (rmM h 0) x1 x2)] [vi (15 + 6 * (rOn (rmM h 0) x1 x2)), vr 104] h Q
      refine r_iconst f_277_35 (by decide) ?_
      refine r_iadd (u := (15 + 6 * (rOn (rmM h 0) x1 x2)) + 4) f_277_36 rfl (o4 c1) ?_
      refine r_iaload (n := 3000) (v := h 104 ((15 + 6 * (rOn (rmM h 0) x1 x2)) + 4).toNat) f_277_37 ⟨rfl, rfl⟩ (o5 c1) rfl ?_
      exact r_reti f_277_38 rfl (k7 c1 c2)

theorem g_M_landOf_39 {Q : PQ} {h : HP} {x1 : Int} {x2 : Int} {x3 : Int} 
    (o1 : WR (rmM h 0))
    (o2 : 0 ≤ x2 ∧ x2 < h 104 1)
    (k3 : rmM h 0 1 x2.toNat ≤ x1 → Q (some (vi 1)) h)
    (k4 : ¬ rmM h 0 1 x2.toNat ≤ x1 → Q (some (vi 0)) h) :
    Wp true i_M_landOf 39 [vr 103, vi x1, vi x2, vi x3] [] h Q := by
  refine r_iload_n (v := x1) f_277_39 rfl ?_
  refine r_aload_n (v := 103) f_277_40 rfl (by decide) ?_
  refine r_iload_n (v := x2) f_277_41 rfl ?_
  refine r_callv (as := [vr 103, vi x2]) (st' := [vi x1]) (ls0 := [vr 103, vi x2]) f_277_42 (by decide) rfl rfl (Nat.le_of_ble_eq_true rfl) (Nat.le_of_ble_eq_true rfl) ⟨_, _, rfl, rfl⟩ rfl ?_
  refine c_M_lineOf o1 o2 ?_
  show Wp true i_M_landOf 45 [vr 103, vi x1, vi x2, vi x3] [vi (rmM h 0 1 x2.toNat), vi x1] h Q
  refine r_br2 (t := 52) f_277_45 rfl cb_ge (fun c1 => ?_) (fun c1 => ?_)
  · refine r_iconst f_277_52 (by decide) ?_
    exact r_reti f_277_53 rfl (k3 c1)
  · refine r_iconst f_277_48 (by decide) ?_
    refine r_goto (t := 53) f_277_49 rfl ?_
    exact r_reti f_277_53 rfl (k4 c1)

theorem c_M_landOf {Q : PQ} {h : HP} {x1 : Int} {x2 : Int} (o1 : WR (rmM h 0)) (o2 : 0 ≤ x2 ∧ x2 < h 104 1) (k : Q (some (vi (rLand (rmM h 0) x1 x2))) h) :
    Wp true i_M_landOf 0 [vr 103, vi x1, vi x2, vr 9999] [] h Q := by
  have w := WM_0 o1
  have w1 := rOn_rg (rmM h 0) x1 x2
  have e3 : rmM h 0 0 3 = h 104 2 := rfl
  have hL : rOn (rmM h 0) x1 x2 = -1 → rLand (rmM h 0) x1 x2 = if rmM h 0 1 x2.toNat ≤ x1 then 1 else 0 := by
    intro q
    unfold rLand rBy
    rw [if_neg (by omega)]
  have hT : ¬ rOn (rmM h 0) x1 x2 = -1 → (0 ≤ rOn (rmM h 0) x1 x2 ∧ rOn (rmM h 0) x1 x2 < h 104 2) ∧ rLand (rmM h 0) x1 x2 = if h 104 (15 + 6 * rOn (rmM h 0) x1 x2 + 4).toNat < 0 then (if rmM h 0 1 x2.toNat ≤ x1 then 1 else 0) else h 104 (15 + 6 * rOn (rmM h 0) x1 x2 + 4).toNat := by
    intro q
    rcases w1 with w1 | ⟨w1, w2, w3, w4⟩
    · exact absurd w1 q
    · obtain ⟨-, -, -, -, t6, -⟩ := mR_t (h := h) (i := (rOn (rmM h 0) x1 x2).toNat) (by omega)
      have e5 : 15 + 6 * (rOn (rmM h 0) x1 x2).toNat + 4 = (15 + 6 * rOn (rmM h 0) x1 x2 + 4).toNat := by omega
      rw [e5] at t6
      refine ⟨⟨w1, by omega⟩, ?_⟩
      unfold rLand rHo
      rw [if_pos w1, t6, w3, w4]
  have hG : ¬ rOn (rmM h 0) x1 x2 = -1 → -1 ≤ h 104 (15 + 6 * rOn (rmM h 0) x1 x2 + 4).toNat := by
    intro q
    have hq := (hT q).1
    obtain ⟨-, -, -, -, t6, -⟩ := mR_t (h := h) (i := (rOn (rmM h 0) x1 x2).toNat) (by omega)
    have e5 : 15 + 6 * (rOn (rmM h 0) x1 x2).toNat + 4 = (15 + 6 * rOn (rmM h 0) x1 x2 + 4).toNat := by omega
    rw [e5] at t6
    obtain ⟨-, -, -, -, w5, -⟩ := o1.2.2.1 (rOn (rmM h 0) x1 x2).toNat (by omega)
    omega
  refine g_M_landOf_0 ?_ ?_ ?_ ?_ ?_ ?_ ?_
  · first | omega | (exfalso; omega) | exact ⟨by omega, by omega⟩ | (first | exact o1 | (have hq := (hT c1).1; omega))
  · intro c1; (try simp only [Int.toNat_natCast] at c1); first | (exfalso; omega) | (rw [hL c1] at k; exact g_M_landOf_39 o1 o2 (fun c => by rw [if_pos c] at k; exact k) (fun c => by rw [if_neg c] at k; exact k))
  · intro c1; (try simp only [Int.toNat_natCast] at c1); first | omega | (exfalso; omega) | exact ⟨by omega, by omega⟩ | (first | exact o1 | (have hq := (hT c1).1; omega))
  · intro c1; (try simp only [Int.toNat_natCast] at c1); first | omega | (exfalso; omega) | exact ⟨by omega, by omega⟩ | (first | exact o1 | (have hq := (hT c1).1; omega))
  · intro c1; (try simp only [Int.toNat_natCast] at c1); first | omega | (exfalso; omega) | exact ⟨by omega, by omega⟩ | (first | exact o1 | (have hq := (hT c1).1; omega))
  · intro c1 c2; (try simp only [Int.toNat_natCast] at c1 c2); first | (exfalso; omega) | (rw [(hT c1).2, if_pos (by omega)] at k; exact g_M_landOf_39 o1 o2 (fun c => by rw [if_pos c] at k; exact k) (fun c => by rw [if_neg c] at k; exact k))
  · intro c1 c2; (try simp only [Int.toNat_natCast] at c1 c2); first | (exfalso; omega) | (have hg := hG c1; rw [(hT c1).2, if_neg (by omega)] at k; exact k)

theorem WM_t {h : HP} (W : WR (rmM h 0)) {t : Int} (h0 : 0 ≤ t) (h1 : t < h 104 2) : h 104 (15 + 6 * t).toNat = rmM h 0 2 t.toNat ∧ h 104 (15 + 6 * t + 1).toNat = rmM h 0 3 t.toNat ∧ (0 ≤ rmM h 0 2 t.toNat ∧ rmM h 0 2 t.toNat < h 104 0) ∧ (0 ≤ rmM h 0 3 t.toNat ∧ rmM h 0 3 t.toNat < h 104 1) := by
  obtain ⟨e1, e2, -⟩ := mR_t (h := h) (i := t.toNat) (by omega)
  obtain ⟨w1, w2, -⟩ := W.2.2.1 t.toNat (by show (t.toNat : Int) < h 104 2; omega)
  have e3 : (15 + 6 * t).toNat = 15 + 6 * t.toNat := by omega
  have e4 : (15 + 6 * t + 1).toNat = 15 + 6 * t.toNat + 1 := by omega
  rw [e3, e4]
  exact ⟨e1.symm, e2.symm, w1, w2⟩
theorem rWo_M {h : HP} {l t : Int} (hl : l = 0 ∨ l = 1) (h0 : 0 ≤ t) (h1 : t < h 104 2) : rWo (rmM h 0) l t.toNat = h 104 (15 + 6 * t + 2 + l).toNat := by
  obtain ⟨-, -, e3, e4, -⟩ := mR_t (h := h) (i := t.toNat) (by omega)
  unfold rWo
  rcases hl with rfl | rfl
  · rw [if_pos rfl, e3]; congr 1; omega
  · rw [if_neg (by decide), e4]; congr 1; omega

theorem g_M_holderOf_0 {Q : PQ} {h : HP} {x1 : Int} 
    (o1 : 0 ≤ x1 ∧ x1 < 100)
    (o2 : 0 ≤ 15 + 6 * x1 ∧ 15 + 6 * x1 < 3000)
    (o3 : -2147483648 ≤ (15 + 6 * x1) + 1 ∧ (15 + 6 * x1) + 1 ≤ 2147483647)
    (o4 : 0 ≤ (15 + 6 * x1) + 1 ∧ (15 + 6 * x1) + 1 < 3000)
    (o5 : WR (rmM h 0))
    (o6 : 0 ≤ (h 104 ((15 + 6 * x1) + 1).toNat) ∧ (h 104 ((15 + 6 * x1) + 1).toNat) < h 104 1)
    (k7 : Q (some (vi (rLand (rmM h 0) (h 104 (15 + 6 * x1).toNat) (h 104 ((15 + 6 * x1) + 1).toNat)))) h) :
    Wp true i_M_holderOf 0 [vr 103, vi x1] [] h Q := by
  refine r_aload_n (v := 103) f_278_0 rfl (by decide) ?_
  refine r_aload_n (v := 103) f_278_1 rfl (by decide) ?_
  refine r_getr (q := 104) f_278_2 rfl (by decide) (Or.inl rfl) rfl ?_
  refine r_iload_n (v := x1) f_278_5 rfl ?_
  refine r_calls (as := [vi x1]) (st' := [vr 104, vr 103]) (ls0 := [vi x1]) f_278_6 (by decide) (by decide) rfl rfl (Nat.le_of_ble_eq_true rfl) (Nat.le_of_ble_eq_true rfl) rfl ?_
  refine c_M_thingRow o1 ?_
  show Wp true i_M_holderOf 9 [vr 103, vi x1] [vi (15 + 6 * x1), vr 104, vr 103] h Q
  refine r_iaload (n := 3000) (v := h 104 (15 + 6 * x1).toNat) f_278_9 ⟨rfl, rfl⟩ o2 rfl ?_
  refine r_aload_n (v := 103) f_278_10 rfl (by decide) ?_
  refine r_getr (q := 104) f_278_11 rfl (by decide) (Or.inl rfl) rfl ?_
  refine r_iload_n (v := x1) f_278_14 rfl ?_
  refine r_calls (as := [vi x1]) (st' := [vr 104, vi (h 104 (15 + 6 * x1).toNat), vr 103]) (ls0 := [vi x1]) f_278_15 (by decide) (by decide) rfl rfl (Nat.le_of_ble_eq_true rfl) (Nat.le_of_ble_eq_true rfl) rfl ?_
  refine c_M_thingRow o1 ?_
  show Wp true i_M_holderOf 18 [vr 103, vi x1] [vi (15 + 6 * x1), vr 104, vi (h 104 (15 + 6 * x1).toNat), vr 103] h Q
  refine r_iconst f_278_18 (by decide) ?_
  refine r_iadd (u := (15 + 6 * x1) + 1) f_278_19 rfl o3 ?_
  refine r_iaload (n := 3000) (v := h 104 ((15 + 6 * x1) + 1).toNat) f_278_20 ⟨rfl, rfl⟩ o4 rfl ?_
  refine r_callv (as := [vr 103, vi (h 104 (15 + 6 * x1).toNat), vi (h 104 ((15 + 6 * x1) + 1).toNat)]) (st' := []) (ls0 := [vr 103, vi (h 104 (15 + 6 * x1).toNat), vi (h 104 ((15 + 6 * x1) + 1).toNat), vr 9999]) f_278_21 (by decide) rfl rfl (Nat.le_of_ble_eq_true rfl) (Nat.le_of_ble_eq_true rfl) ⟨_, _, rfl, rfl⟩ rfl ?_
  refine c_M_landOf o5 o6 ?_
  show Wp true i_M_holderOf 24 [vr 103, vi x1] [vi (rLand (rmM h 0) (h 104 (15 + 6 * x1).toNat) (h 104 ((15 + 6 * x1) + 1).toNat))] h Q
  exact r_reti f_278_24 rfl k7

theorem c_M_holderOf {Q : PQ} {h : HP} {x1 : Int} (o1 : WR (rmM h 0)) (o2 : 0 ≤ x1 ∧ x1 < h 104 2) (k : Q (some (vi (rHo (rmM h 0) x1.toNat))) h) :
    Wp true i_M_holderOf 0 [vr 103, vi x1] [] h Q := by
  have w := WM_0 o1
  obtain ⟨a1, a2, a3, a4⟩ := WM_t o1 o2.1 o2.2
  have e := rLand_self o1 (t := x1.toNat) (by show (x1.toNat : Int) < h 104 2; omega)
  rw [← a1, ← a2] at e
  rw [← a2] at a4
  refine g_M_holderOf_0 ?_ ?_ ?_ ?_ ?_ ?_ ?_
  · first | omega | (exfalso; omega) | exact ⟨by omega, by omega⟩ | (first | exact o1 | exact o2)
  · first | omega | (exfalso; omega) | exact ⟨by omega, by omega⟩ | (first | exact o1 | exact o2)
  · first | omega | (exfalso; omega) | exact ⟨by omega, by omega⟩ | (first | exact o1 | exact o2)
  · first | omega | (exfalso; omega) | exact ⟨by omega, by omega⟩ | (first | exact o1 | exact o2)
  · first | omega | (exfalso; omega) | exact ⟨by omega, by omega⟩ | (first | exact o1 | exact o2)
  · first | omega | (exfalso; omega) | exact ⟨by omega, by omega⟩ | (first | exact o1 | exact o2)
  · rw [e]; exact k

theorem g_M_worthTo_0 {Q : PQ} {h : HP} {x1 : Int} {x2 : Int} 
    (o1 : 0 ≤ x1 ∧ x1 < 100)
    (o2 : -2147483648 ≤ (15 + 6 * x1) + 2 ∧ (15 + 6 * x1) + 2 ≤ 2147483647)
    (o3 : -2147483648 ≤ ((15 + 6 * x1) + 2) + x2 ∧ ((15 + 6 * x1) + 2) + x2 ≤ 2147483647)
    (o4 : 0 ≤ ((15 + 6 * x1) + 2) + x2 ∧ ((15 + 6 * x1) + 2) + x2 < 3000)
    (k5 : Q (some (vi (h 104 (((15 + 6 * x1) + 2) + x2).toNat))) h) :
    Wp true i_M_worthTo 0 [vr 103, vi x1, vi x2] [] h Q := by
  refine r_aload_n (v := 103) f_279_0 rfl (by decide) ?_
  refine r_getr (q := 104) f_279_1 rfl (by decide) (Or.inl rfl) rfl ?_
  refine r_iload_n (v := x1) f_279_4 rfl ?_
  refine r_calls (as := [vi x1]) (st' := [vr 104]) (ls0 := [vi x1]) f_279_5 (by decide) (by decide) rfl rfl (Nat.le_of_ble_eq_true rfl) (Nat.le_of_ble_eq_true rfl) rfl ?_
  refine c_M_thingRow o1 ?_
  show Wp true i_M_worthTo 8 [vr 103, vi x1, vi x2] [vi (15 + 6 * x1), vr 104] h Q
  refine r_iconst f_279_8 (by decide) ?_
  refine r_iadd (u := (15 + 6 * x1) + 2) f_279_9 rfl o2 ?_
  refine r_iload_n (v := x2) f_279_10 rfl ?_
  refine r_iadd (u := ((15 + 6 * x1) + 2) + x2) f_279_11 rfl o3 ?_
  refine r_iaload (n := 3000) (v := h 104 (((15 + 6 * x1) + 2) + x2).toNat) f_279_12 ⟨rfl, rfl⟩ o4 rfl ?_
  exact r_reti f_279_13 rfl k5

theorem c_M_worthTo {Q : PQ} {h : HP} {x1 : Int} {x2 : Int} (o1 : WR (rmM h 0)) (o2 : x2 = 0 ∨ x2 = 1) (o3 : 0 ≤ x1 ∧ x1 < h 104 2) (k : Q (some (vi (rWo (rmM h 0) x2 x1.toNat))) h) :
    Wp true i_M_worthTo 0 [vr 103, vi x1, vi x2] [] h Q := by
  have w := WM_0 o1
  simp only [rWo_M o2 o3.1 o3.2] at k
  refine g_M_worthTo_0 ?_ ?_ ?_ ?_ ?_
  · intros; first | omega | exact ⟨by omega, by omega⟩
  · intros; first | omega | exact ⟨by omega, by omega⟩
  · intros; first | omega | exact ⟨by omega, by omega⟩
  · intros; first | omega | exact ⟨by omega, by omega⟩
  · intros; first | exact k | (refine kv k ?_; omega) | (refine kv k ?_; simp only [*, if_true, if_false]; try omega) | (refine kv k ?_; split <;> omega)

theorem g_M_valueOf_0 {Q : PQ} {h : HP} {x1 : Int} 
    (k1 : Wp true i_M_valueOf 4 [vr 103, vi x1, vi 0, vi 0] [] h Q) :
    Wp true i_M_valueOf 0 [vr 103, vi x1, vr 9999, vr 9999] [] h Q := by
  refine r_iconst f_280_0 (by decide) ?_
  refine r_istore_n (ls' := [vr 103, vi x1, vi 0, vr 9999]) f_280_1 (Nat.le_of_ble_eq_true rfl) rfl ?_
  refine r_iconst f_280_2 (by decide) ?_
  refine r_istore_n (ls' := [vr 103, vi x1, vi 0, vi 0]) f_280_3 (Nat.le_of_ble_eq_true rfl) rfl ?_
  exact k1

theorem g_M_valueOf_4 {Q : PQ} {h : HP} {x1 : Int} {x2 : Int} {x3 : Int} 
    (k1 : h 104 2 ≤ x3 → Q (some (vi x2)) h)
    (o2 : ¬ h 104 2 ≤ x3 → WR (rmM h 0))
    (o3 : ¬ h 104 2 ≤ x3 → 0 ≤ x3 ∧ x3 < h 104 2)
    (o4 : ¬ h 104 2 ≤ x3 → ¬ rHo (rmM h 0) x3.toNat = x1 → -2147483648 ≤ x2 + 0 ∧ x2 + 0 ≤ 2147483647)
    (o5 : ¬ h 104 2 ≤ x3 → ¬ rHo (rmM h 0) x3.toNat = x1 → -2147483648 ≤ x3 + 1 ∧ x3 + 1 ≤ 2147483647)
    (k6 : ¬ h 104 2 ≤ x3 → ¬ rHo (rmM h 0) x3.toNat = x1 → Wp true i_M_valueOf 4 [vr 103, vi x1, vi (x2 + 0), vi (x3 + 1)] [] h Q)
    (o7 : ¬ h 104 2 ≤ x3 → rHo (rmM h 0) x3.toNat = x1 → x1 = 0 ∨ x1 = 1)
    (o8 : ¬ h 104 2 ≤ x3 → rHo (rmM h 0) x3.toNat = x1 → -2147483648 ≤ x2 + (rWo (rmM h 0) x1 x3.toNat) ∧ x2 + (rWo (rmM h 0) x1 x3.toNat) ≤ 2147483647)
    (o9 : ¬ h 104 2 ≤ x3 → rHo (rmM h 0) x3.toNat = x1 → -2147483648 ≤ x3 + 1 ∧ x3 + 1 ≤ 2147483647)
    (k10 : ¬ h 104 2 ≤ x3 → rHo (rmM h 0) x3.toNat = x1 → Wp true i_M_valueOf 4 [vr 103, vi x1, vi (x2 + (rWo (rmM h 0) x1 x3.toNat)), vi (x3 + 1)] [] h Q) :
    Wp true i_M_valueOf 4 [vr 103, vi x1, vi x2, vi x3] [] h Q := by
  refine r_iload_n (v := x3) f_280_4 rfl ?_
  refine r_aload_n (v := 103) f_280_5 rfl (by decide) ?_
  refine r_getr (q := 104) f_280_6 rfl (by decide) (Or.inl rfl) rfl ?_
  refine r_iconst f_280_9 (by decide) ?_
  refine r_iaload (n := 3000) (v := h 104 2) f_280_10 ⟨rfl, rfl⟩ (by decide) rfl ?_
  refine r_br2 (t := 42) f_280_11 rfl cb_ge (fun c1 => ?_) (fun c1 => ?_)
  · refine r_iload_n (v := x2) f_280_42 rfl ?_
    exact r_reti f_280_43 rfl (k1 c1)
  · refine r_iload_n (v := x2) f_280_14 rfl ?_
    refine r_aload_n (v := 103) f_280_15 rfl (by decide) ?_
    refine r_iload_n (v := x3) f_280_16 rfl ?_
    refine r_callv (as := [vr 103, vi x3]) (st' := [vi x2]) (ls0 := [vr 103, vi x3]) f_280_17 (by decide) rfl rfl (Nat.le_of_ble_eq_true rfl) (Nat.le_of_ble_eq_true rfl) ⟨_, _, rfl, rfl⟩ rfl ?_
    refine c_M_holderOf (o2 c1) (o3 c1) ?_
    show Wp true i_M_valueOf 20 [vr 103, vi x1, vi x2, vi x3] [vi (rHo (rmM h 0) x3.toNat), vi x2] h Q
    refine r_iload_n (v := x1) f_280_20 rfl ?_
    refine r_br2 (t := 33) f_280_21 rfl cb_ne (fun c2 => ?_) (fun c2 => ?_)
    · refine r_iconst f_280_33 (by decide) ?_
      refine r_iadd (u := x2 + 0) f_280_34 rfl (o4 c1 c2) ?_
      refine r_istore_n (ls' := [vr 103, vi x1, vi (x2 + 0), vi x3]) f_280_35 (Nat.le_of_ble_eq_true rfl) rfl ?_
      refine r_iinc (v := x3) (w := x3 + 1) (ls' := [vr 103, vi x1, vi (x2 + 0), vi (x3 + 1)]) f_280_36 rfl rfl (o5 c1 c2) rfl ?_
      refine r_goto (t := 4) f_280_39 rfl ?_
      exact (k6 c1 c2)
    · have c2 := Decidable.not_not.mp c2
      refine r_aload_n (v := 103) f_280_24 rfl (by decide) ?_
      refine r_iload_n (v := x3) f_280_25 rfl ?_
      refine r_iload_n (v := x1) f_280_26 rfl ?_
      refine r_callv (as := [vr 103, vi x3, vi x1]) (st' := [vi x2]) (ls0 := [vr 103, vi x3, vi x1]) f_280_27 (by decide) rfl rfl (Nat.le_of_ble_eq_true rfl) (Nat.le_of_ble_eq_true rfl) ⟨_, _, rfl, rfl⟩ rfl ?_
      refine c_M_worthTo (o2 c1) (o7 c1 c2) (o3 c1) ?_
      show Wp true i_M_valueOf 30 [vr 103, vi x1, vi x2, vi x3] [vi (rWo (rmM h 0) x1 x3.toNat), vi x2] h Q
      refine r_goto (t := 34) f_280_30 rfl ?_
      refine r_iadd (u := x2 + (rWo (rmM h 0) x1 x3.toNat)) f_280_34 rfl (o8 c1 c2) ?_
      refine r_istore_n (ls' := [vr 103, vi x1, vi (x2 + (rWo (rmM h 0) x1 x3.toNat)), vi x3]) f_280_35 (Nat.le_of_ble_eq_true rfl) rfl ?_
      refine r_iinc (v := x3) (w := x3 + 1) (ls' := [vr 103, vi x1, vi (x2 + (rWo (rmM h 0) x1 x3.toNat)), vi (x3 + 1)]) f_280_36 rfl rfl (o9 c1 c2) rfl ?_
      refine r_goto (t := 4) f_280_39 rfl ?_
      exact (k10 c1 c2)

theorem c_M_valueOf {Q : PQ} {h : HP} {x1 : Int} (o1 : WR (rmM h 0)) (o2 : x1 = 0 ∨ x1 = 1) (k : Q (some (vi (rVal (rmM h 0) x1 x1))) h) :
    Wp true i_M_valueOf 0 [vr 103, vi x1, vr 9999, vr 9999] [] h Q := by
  have w := WM_0 o1
  refine g_M_valueOf_0 ?_
  have key : ∀ (d i : Nat) (s : Int), ((i : Int) + d = h 104 2 ∨ (d = 0 ∧ h 104 2 ≤ i)) → (0 ≤ s ∧ s ≤ 99 * i) → Q (some (vi (s + sumF (fun i => if rHo (rmM h 0) i = x1 then rWo (rmM h 0) x1 i else 0) d i))) h → Wp true i_M_valueOf 4 [vr 103, vi x1, vi s, vi (i : Int)] [] h Q := by
    intro d
    induction d with
    | zero =>
      intro i s e hi kk
      simp only [fld, sumF, Int.add_zero] at kk
      refine g_M_valueOf_4 ?_ ?_ ?_ ?_ ?_ ?_ ?_ ?_ ?_ ?_
      · intro c1; (try simp only [Int.toNat_natCast] at c1); first | (exfalso; omega) | (exact kk)
      · intro c1; (try simp only [Int.toNat_natCast] at c1); first | omega | (exfalso; omega) | exact ⟨by omega, by omega⟩ | (first | exact o1 | exact o2 | (simp only [Int.toNat_natCast]; omega))
      · intro c1; (try simp only [Int.toNat_natCast] at c1); first | omega | (exfalso; omega) | exact ⟨by omega, by omega⟩ | (first | exact o1 | exact o2 | (simp only [Int.toNat_natCast]; omega))
      · intro c1 c2; (try simp only [Int.toNat_natCast] at c1 c2); first | omega | (exfalso; omega) | exact ⟨by omega, by omega⟩ | (first | exact o1 | exact o2 | (simp only [Int.toNat_natCast]; omega))
      · intro c1 c2; (try simp only [Int.toNat_natCast] at c1 c2); first | omega | (exfalso; omega) | exact ⟨by omega, by omega⟩ | (first | exact o1 | exact o2 | (simp only [Int.toNat_natCast]; omega))
      · intro c1 c2; (try simp only [Int.toNat_natCast] at c1 c2); first | (exfalso; omega) | (skip)
      · intro c1 c2; (try simp only [Int.toNat_natCast] at c1 c2); first | omega | (exfalso; omega) | exact ⟨by omega, by omega⟩ | (first | exact o1 | exact o2 | (simp only [Int.toNat_natCast]; omega))
      · intro c1 c2; (try simp only [Int.toNat_natCast] at c1 c2); first | omega | (exfalso; omega) | exact ⟨by omega, by omega⟩ | (first | exact o1 | exact o2 | (simp only [Int.toNat_natCast]; omega))
      · intro c1 c2; (try simp only [Int.toNat_natCast] at c1 c2); first | omega | (exfalso; omega) | exact ⟨by omega, by omega⟩ | (first | exact o1 | exact o2 | (simp only [Int.toNat_natCast]; omega))
      · intro c1 c2; (try simp only [Int.toNat_natCast] at c1 c2); first | (exfalso; omega) | (skip)
    | succ d ih =>
      intro i s e hi kk
      have r1 := rWo_rg o1 (t := i) (show (i : Int) < h 104 2 by omega) x1
      refine g_M_valueOf_4 ?_ ?_ ?_ ?_ ?_ ?_ ?_ ?_ ?_ ?_
      · intro c1; (try simp only [Int.toNat_natCast] at c1); first | (exfalso; omega) | (skip)
      · intro c1; (try simp only [Int.toNat_natCast] at c1); first | omega | (exfalso; omega) | exact ⟨by omega, by omega⟩ | (first | exact o1 | exact o2 | (simp only [Int.toNat_natCast]; omega))
      · intro c1; (try simp only [Int.toNat_natCast] at c1); first | omega | (exfalso; omega) | exact ⟨by omega, by omega⟩ | (first | exact o1 | exact o2 | (simp only [Int.toNat_natCast]; omega))
      · intro c1 c2; (try simp only [Int.toNat_natCast] at c1 c2); first | omega | (exfalso; omega) | exact ⟨by omega, by omega⟩ | (first | exact o1 | exact o2 | (simp only [Int.toNat_natCast]; omega))
      · intro c1 c2; (try simp only [Int.toNat_natCast] at c1 c2); first | omega | (exfalso; omega) | exact ⟨by omega, by omega⟩ | (first | exact o1 | exact o2 | (simp only [Int.toNat_natCast]; omega))
      · intro c1 c2; (try simp only [Int.toNat_natCast] at c1 c2); first | (exfalso; omega) | (refine ih (i + 1) _ (by omega) (by (try simp only [Int.toNat_natCast]); omega) (kv kk ?_); simp only [sumF, Int.toNat_natCast, if_neg c2] <;> omega)
      · intro c1 c2; (try simp only [Int.toNat_natCast] at c1 c2); first | omega | (exfalso; omega) | exact ⟨by omega, by omega⟩ | (first | exact o1 | exact o2 | (simp only [Int.toNat_natCast]; omega))
      · intro c1 c2; (try simp only [Int.toNat_natCast] at c1 c2); first | omega | (exfalso; omega) | exact ⟨by omega, by omega⟩ | (first | exact o1 | exact o2 | (simp only [Int.toNat_natCast]; omega))
      · intro c1 c2; (try simp only [Int.toNat_natCast] at c1 c2); first | omega | (exfalso; omega) | exact ⟨by omega, by omega⟩ | (first | exact o1 | exact o2 | (simp only [Int.toNat_natCast]; omega))
      · intro c1 c2; (try simp only [Int.toNat_natCast] at c1 c2); first | (exfalso; omega) | (refine ih (i + 1) _ (by omega) (by (try simp only [Int.toNat_natCast]); omega) (kv kk ?_); simp only [sumF, Int.toNat_natCast, if_pos c2] <;> omega)
  refine key (h 104 2).toNat 0 0 (by omega) (by omega) ?_
  rw [Int.zero_add]; exact k

theorem g_M_worthOfAll_0 {Q : PQ} {h : HP} {x1 : Int} 
    (k1 : Wp true i_M_worthOfAll 4 [vr 103, vi x1, vi 0, vi 0] [] h Q) :
    Wp true i_M_worthOfAll 0 [vr 103, vi x1, vr 9999, vr 9999] [] h Q := by
  refine r_iconst f_281_0 (by decide) ?_
  refine r_istore_n (ls' := [vr 103, vi x1, vi 0, vr 9999]) f_281_1 (Nat.le_of_ble_eq_true rfl) rfl ?_
  refine r_iconst f_281_2 (by decide) ?_
  refine r_istore_n (ls' := [vr 103, vi x1, vi 0, vi 0]) f_281_3 (Nat.le_of_ble_eq_true rfl) rfl ?_
  exact k1

theorem g_M_worthOfAll_4 {Q : PQ} {h : HP} {x1 : Int} {x2 : Int} {x3 : Int} 
    (k1 : h 104 2 ≤ x3 → Q (some (vi x2)) h)
    (o2 : ¬ h 104 2 ≤ x3 → WR (rmM h 0))
    (o3 : ¬ h 104 2 ≤ x3 → x1 = 0 ∨ x1 = 1)
    (o4 : ¬ h 104 2 ≤ x3 → 0 ≤ x3 ∧ x3 < h 104 2)
    (o5 : ¬ h 104 2 ≤ x3 → -2147483648 ≤ x2 + (rWo (rmM h 0) x1 x3.toNat) ∧ x2 + (rWo (rmM h 0) x1 x3.toNat) ≤ 2147483647)
    (o6 : ¬ h 104 2 ≤ x3 → -2147483648 ≤ x3 + 1 ∧ x3 + 1 ≤ 2147483647)
    (k7 : ¬ h 104 2 ≤ x3 → Wp true i_M_worthOfAll 4 [vr 103, vi x1, vi (x2 + (rWo (rmM h 0) x1 x3.toNat)), vi (x3 + 1)] [] h Q) :
    Wp true i_M_worthOfAll 4 [vr 103, vi x1, vi x2, vi x3] [] h Q := by
  refine r_iload_n (v := x3) f_281_4 rfl ?_
  refine r_aload_n (v := 103) f_281_5 rfl (by decide) ?_
  refine r_getr (q := 104) f_281_6 rfl (by decide) (Or.inl rfl) rfl ?_
  refine r_iconst f_281_9 (by decide) ?_
  refine r_iaload (n := 3000) (v := h 104 2) f_281_10 ⟨rfl, rfl⟩ (by decide) rfl ?_
  refine r_br2 (t := 29) f_281_11 rfl cb_ge (fun c1 => ?_) (fun c1 => ?_)
  · refine r_iload_n (v := x2) f_281_29 rfl ?_
    exact r_reti f_281_30 rfl (k1 c1)
  · refine r_iload_n (v := x2) f_281_14 rfl ?_
    refine r_aload_n (v := 103) f_281_15 rfl (by decide) ?_
    refine r_iload_n (v := x3) f_281_16 rfl ?_
    refine r_iload_n (v := x1) f_281_17 rfl ?_
    refine r_callv (as := [vr 103, vi x3, vi x1]) (st' := [vi x2]) (ls0 := [vr 103, vi x3, vi x1]) f_281_18 (by decide) rfl rfl (Nat.le_of_ble_eq_true rfl) (Nat.le_of_ble_eq_true rfl) ⟨_, _, rfl, rfl⟩ rfl ?_
    refine c_M_worthTo (o2 c1) (o3 c1) (o4 c1) ?_
    show Wp true i_M_worthOfAll 21 [vr 103, vi x1, vi x2, vi x3] [vi (rWo (rmM h 0) x1 x3.toNat), vi x2] h Q
    refine r_iadd (u := x2 + (rWo (rmM h 0) x1 x3.toNat)) f_281_21 rfl (o5 c1) ?_
    refine r_istore_n (ls' := [vr 103, vi x1, vi (x2 + (rWo (rmM h 0) x1 x3.toNat)), vi x3]) f_281_22 (Nat.le_of_ble_eq_true rfl) rfl ?_
    refine r_iinc (v := x3) (w := x3 + 1) (ls' := [vr 103, vi x1, vi (x2 + (rWo (rmM h 0) x1 x3.toNat)), vi (x3 + 1)]) f_281_23 rfl rfl (o6 c1) rfl ?_
    refine r_goto (t := 4) f_281_26 rfl ?_
    exact (k7 c1)

theorem c_M_worthOfAll {Q : PQ} {h : HP} {x1 : Int} (o1 : WR (rmM h 0)) (o2 : x1 = 0 ∨ x1 = 1) (k : Q (some (vi (rAll (rmM h 0) x1))) h) :
    Wp true i_M_worthOfAll 0 [vr 103, vi x1, vr 9999, vr 9999] [] h Q := by
  have w := WM_0 o1
  refine g_M_worthOfAll_0 ?_
  have key : ∀ (d i : Nat) (s : Int), ((i : Int) + d = h 104 2 ∨ (d = 0 ∧ h 104 2 ≤ i)) → (0 ≤ s ∧ s ≤ 99 * i) → Q (some (vi (s + sumF (fun i => rWo (rmM h 0) x1 i) d i))) h → Wp true i_M_worthOfAll 4 [vr 103, vi x1, vi s, vi (i : Int)] [] h Q := by
    intro d
    induction d with
    | zero =>
      intro i s e hi kk
      simp only [fld, sumF, Int.add_zero] at kk
      refine g_M_worthOfAll_4 ?_ ?_ ?_ ?_ ?_ ?_ ?_
      · intro c1; (try simp only [Int.toNat_natCast] at c1); first | (exfalso; omega) | (exact kk)
      · intro c1; (try simp only [Int.toNat_natCast] at c1); first | omega | (exfalso; omega) | exact ⟨by omega, by omega⟩ | (first | exact o1 | exact o2 | (simp only [Int.toNat_natCast]; omega))
      · intro c1; (try simp only [Int.toNat_natCast] at c1); first | omega | (exfalso; omega) | exact ⟨by omega, by omega⟩ | (first | exact o1 | exact o2 | (simp only [Int.toNat_natCast]; omega))
      · intro c1; (try simp only [Int.toNat_natCast] at c1); first | omega | (exfalso; omega) | exact ⟨by omega, by omega⟩ | (first | exact o1 | exact o2 | (simp only [Int.toNat_natCast]; omega))
      · intro c1; (try simp only [Int.toNat_natCast] at c1); first | omega | (exfalso; omega) | exact ⟨by omega, by omega⟩ | (first | exact o1 | exact o2 | (simp only [Int.toNat_natCast]; omega))
      · intro c1; (try simp only [Int.toNat_natCast] at c1); first | omega | (exfalso; omega) | exact ⟨by omega, by omega⟩ | (first | exact o1 | exact o2 | (simp only [Int.toNat_natCast]; omega))
      · intro c1; (try simp only [Int.toNat_natCast] at c1); first | (exfalso; omega) | (skip)
    | succ d ih =>
      intro i s e hi kk
      have r1 := rWo_rg o1 (t := i) (show (i : Int) < h 104 2 by omega) x1
      refine g_M_worthOfAll_4 ?_ ?_ ?_ ?_ ?_ ?_ ?_
      · intro c1; (try simp only [Int.toNat_natCast] at c1); first | (exfalso; omega) | (skip)
      · intro c1; (try simp only [Int.toNat_natCast] at c1); first | omega | (exfalso; omega) | exact ⟨by omega, by omega⟩ | (first | exact o1 | exact o2 | (simp only [Int.toNat_natCast]; omega))
      · intro c1; (try simp only [Int.toNat_natCast] at c1); first | omega | (exfalso; omega) | exact ⟨by omega, by omega⟩ | (first | exact o1 | exact o2 | (simp only [Int.toNat_natCast]; omega))
      · intro c1; (try simp only [Int.toNat_natCast] at c1); first | omega | (exfalso; omega) | exact ⟨by omega, by omega⟩ | (first | exact o1 | exact o2 | (simp only [Int.toNat_natCast]; omega))
      · intro c1; (try simp only [Int.toNat_natCast] at c1); first | omega | (exfalso; omega) | exact ⟨by omega, by omega⟩ | (first | exact o1 | exact o2 | (simp only [Int.toNat_natCast]; omega))
      · intro c1; (try simp only [Int.toNat_natCast] at c1); first | omega | (exfalso; omega) | exact ⟨by omega, by omega⟩ | (first | exact o1 | exact o2 | (simp only [Int.toNat_natCast]; omega))
      · intro c1; (try simp only [Int.toNat_natCast] at c1); first | (exfalso; omega) | (refine ih (i + 1) _ (by omega) (by (try simp only [Int.toNat_natCast]); omega) (kv kk ?_); simp only [sumF, Int.toNat_natCast] <;> omega)
  refine key (h 104 2).toNat 0 0 (by omega) (by omega) ?_
  rw [Int.zero_add]; exact k

theorem g_M_envyOf_0 {Q : PQ} {h : HP} {x1 : Int} 
    (o1 : WR (rmM h 0))
    (o2 : x1 = 0 ∨ x1 = 1)
    (o3 : -2147483648 ≤ 2 * (rVal (rmM h 0) x1 x1) ∧ 2 * (rVal (rmM h 0) x1 x1) ≤ 2147483647)
    (o4 : -2147483648 ≤ (rAll (rmM h 0) x1) - (2 * (rVal (rmM h 0) x1 x1)) ∧ (rAll (rmM h 0) x1) - (2 * (rVal (rmM h 0) x1 x1)) ≤ 2147483647)
    (k5 : Q (some (vi ((rAll (rmM h 0) x1) - (2 * (rVal (rmM h 0) x1 x1))))) h) :
    Wp true i_M_envyOf 0 [vr 103, vi x1] [] h Q := by
  refine r_aload_n (v := 103) f_282_0 rfl (by decide) ?_
  refine r_iload_n (v := x1) f_282_1 rfl ?_
  refine r_callv (as := [vr 103, vi x1]) (st' := []) (ls0 := [vr 103, vi x1, vr 9999, vr 9999]) f_282_2 (by decide) rfl rfl (Nat.le_of_ble_eq_true rfl) (Nat.le_of_ble_eq_true rfl) ⟨_, _, rfl, rfl⟩ rfl ?_
  refine c_M_worthOfAll o1 o2 ?_
  show Wp true i_M_envyOf 5 [vr 103, vi x1] [vi (rAll (rmM h 0) x1)] h Q
  refine r_iconst f_282_5 (by decide) ?_
  refine r_aload_n (v := 103) f_282_6 rfl (by decide) ?_
  refine r_iload_n (v := x1) f_282_7 rfl ?_
  refine r_callv (as := [vr 103, vi x1]) (st' := [vi 2, vi (rAll (rmM h 0) x1)]) (ls0 := [vr 103, vi x1, vr 9999, vr 9999]) f_282_8 (by decide) rfl rfl (Nat.le_of_ble_eq_true rfl) (Nat.le_of_ble_eq_true rfl) ⟨_, _, rfl, rfl⟩ rfl ?_
  refine c_M_valueOf o1 o2 ?_
  show Wp true i_M_envyOf 11 [vr 103, vi x1] [vi (rVal (rmM h 0) x1 x1), vi 2, vi (rAll (rmM h 0) x1)] h Q
  refine r_imul (u := 2 * (rVal (rmM h 0) x1 x1)) f_282_11 rfl o3 ?_
  refine r_isub (u := (rAll (rmM h 0) x1) - (2 * (rVal (rmM h 0) x1 x1))) f_282_12 rfl o4 ?_
  exact r_reti f_282_13 rfl k5

theorem c_M_envyOf {Q : PQ} {h : HP} {x1 : Int} (o1 : WR (rmM h 0)) (o2 : x1 = 0 ∨ x1 = 1) (k : Q (some (vi (rVal (rmM h 0) (1 - x1) x1 - rVal (rmM h 0) x1 x1))) h) :
    Wp true i_M_envyOf 0 [vr 103, vi x1] [] h Q := by
  have a := rVal_rg o1 x1 x1
  have b := rAll_rg o1 x1
  have e := rAll_eq o1 x1
  have e2 : rVal (rmM h 0) (1 - x1) x1 - rVal (rmM h 0) x1 x1 = rAll (rmM h 0) x1 - 2 * rVal (rmM h 0) x1 x1 := by
    rcases o2 with rfl | rfl
    · simp only [show (1 : Int) - 0 = 1 from rfl]; omega
    · simp only [show (1 : Int) - 1 = 0 from rfl]; omega
  rw [e2] at k
  refine g_M_envyOf_0 ?_ ?_ ?_ ?_ ?_
  · first | omega | (exfalso; omega) | exact ⟨by omega, by omega⟩ | (first | exact o1 | exact o2)
  · first | omega | (exfalso; omega) | exact ⟨by omega, by omega⟩ | (first | exact o1 | exact o2)
  · first | omega | (exfalso; omega) | exact ⟨by omega, by omega⟩ | (first | exact o1 | exact o2)
  · first | omega | (exfalso; omega) | exact ⟨by omega, by omega⟩ | (first | exact o1 | exact o2)
  · exact k

theorem g_M_hasIn_0 {Q : PQ} {h : HP} {x1 : Int} {x2 : Int} 
    (o1 : ¬ x1 = 0 → WR (rmM h 0))
    (o2 : ¬ x1 = 0 → 0 ≤ x2 ∧ x2 < h 104 1)
    (o3 : ¬ x1 = 0 → -2147483648 ≤ (h 104 0) - (rmM h 0 1 x2.toNat) ∧ (h 104 0) - (rmM h 0 1 x2.toNat) ≤ 2147483647)
    (k4 : ¬ x1 = 0 → Q (some (vi ((h 104 0) - (rmM h 0 1 x2.toNat)))) h)
    (o5 : x1 = 0 → WR (rmM h 0))
    (o6 : x1 = 0 → 0 ≤ x2 ∧ x2 < h 104 1)
    (k7 : x1 = 0 → Q (some (vi (rmM h 0 1 x2.toNat))) h) :
    Wp true i_M_hasIn 0 [vr 103, vi x1, vi x2] [] h Q := by
  refine r_iload_n (v := x1) f_284_0 rfl ?_
  refine r_br (t := 12) f_284_1 rfl cb_ne (fun c1 => ?_) (fun c1 => ?_)
  · refine r_aload_n (v := 103) f_284_12 rfl (by decide) ?_
    refine r_getr (q := 104) f_284_13 rfl (by decide) (Or.inl rfl) rfl ?_
    refine r_iconst f_284_16 (by decide) ?_
    refine r_iaload (n := 3000) (v := h 104 0) f_284_17 ⟨rfl, rfl⟩ (by decide) rfl ?_
    refine r_aload_n (v := 103) f_284_18 rfl (by decide) ?_
    refine r_iload_n (v := x2) f_284_19 rfl ?_
    refine r_callv (as := [vr 103, vi x2]) (st' := [vi (h 104 0)]) (ls0 := [vr 103, vi x2]) f_284_20 (by decide) rfl rfl (Nat.le_of_ble_eq_true rfl) (Nat.le_of_ble_eq_true rfl) ⟨_, _, rfl, rfl⟩ rfl ?_
    refine c_M_lineOf (o1 c1) (o2 c1) ?_
    show Wp true i_M_hasIn 23 [vr 103, vi x1, vi x2] [vi (rmM h 0 1 x2.toNat), vi (h 104 0)] h Q
    refine r_isub (u := (h 104 0) - (rmM h 0 1 x2.toNat)) f_284_23 rfl (o3 c1) ?_
    exact r_reti f_284_24 rfl (k4 c1)
  · have c1 := Decidable.not_not.mp c1
    refine r_aload_n (v := 103) f_284_4 rfl (by decide) ?_
    refine r_iload_n (v := x2) f_284_5 rfl ?_
    refine r_callv (as := [vr 103, vi x2]) (st' := []) (ls0 := [vr 103, vi x2]) f_284_6 (by decide) rfl rfl (Nat.le_of_ble_eq_true rfl) (Nat.le_of_ble_eq_true rfl) ⟨_, _, rfl, rfl⟩ rfl ?_
    refine c_M_lineOf (o5 c1) (o6 c1) ?_
    show Wp true i_M_hasIn 9 [vr 103, vi x1, vi x2] [vi (rmM h 0 1 x2.toNat)] h Q
    refine r_goto (t := 24) f_284_9 rfl ?_
    exact r_reti f_284_24 rfl (k7 c1)

theorem c_M_hasIn {Q : PQ} {h : HP} {x1 : Int} {x2 : Int} (o1 : WR (rmM h 0)) (o2 : 0 ≤ x2 ∧ x2 < h 104 1) (k : Q (some (vi (rIn (rmM h 0) x1 x2.toNat))) h) :
    Wp true i_M_hasIn 0 [vr 103, vi x1, vi x2] [] h Q := by
  have w := WM_0 o1
  have w1 := o1.2.1 x2.toNat (by show (x2.toNat : Int) < h 104 1; omega)
  have e0 : rmM h 0 0 0 = h 104 0 := rfl
  simp only [rIn, e0] at k
  refine g_M_hasIn_0 ?_ ?_ ?_ ?_ ?_ ?_ ?_
  · intro c1; (try simp only [Int.toNat_natCast] at c1); first | omega | (exfalso; omega) | exact ⟨by omega, by omega⟩ | (first | exact o1 | exact o2)
  · intro c1; (try simp only [Int.toNat_natCast] at c1); first | omega | (exfalso; omega) | exact ⟨by omega, by omega⟩ | (first | exact o1 | exact o2)
  · intro c1; (try simp only [Int.toNat_natCast] at c1); first | omega | (exfalso; omega) | exact ⟨by omega, by omega⟩ | (first | exact o1 | exact o2)
  · intro c1; (try simp only [Int.toNat_natCast] at c1); first | (exfalso; omega) | (rw [if_neg c1] at k; exact k)
  · intro c1; (try simp only [Int.toNat_natCast] at c1); first | omega | (exfalso; omega) | exact ⟨by omega, by omega⟩ | (first | exact o1 | exact o2)
  · intro c1; (try simp only [Int.toNat_natCast] at c1); first | omega | (exfalso; omega) | exact ⟨by omega, by omega⟩ | (first | exact o1 | exact o2)
  · intro c1; (try simp only [Int.toNat_natCast] at c1); first | (exfalso; omega) | (rw [if_pos c1] at k; exact k)
