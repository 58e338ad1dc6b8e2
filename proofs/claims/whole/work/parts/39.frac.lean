def gN (a b : Int) : Int := ((Nat.gcd a.toNat b.toNat : Nat) : Int)
theorem gN_step {a b : Int} (ha : 0 ≤ a) (hb : 0 < b) : gN a b = gN b (a % b) := by
  obtain ⟨m, rfl⟩ := Int.eq_ofNat_of_zero_le ha
  obtain ⟨n, rfl⟩ := Int.eq_ofNat_of_zero_le (Int.le_of_lt hb)
  have e : ((m : Int) % (n : Int)) = ((m % n : Nat) : Int) := rfl
  unfold gN
  rw [e]
  simp only [Int.toNat_natCast]
  rw [Nat.gcd_comm m n, Nat.gcd_rec n m, Nat.gcd_comm]
theorem gN_0 {a : Int} (ha : 0 ≤ a) : gN a 0 = a := by
  unfold gN
  have : (0 : Int).toNat = 0 := rfl
  rw [this, Nat.gcd_zero_right]
  omega
theorem gN_pos {a b : Int} (hb : 0 < b) : 0 < gN a b := by
  unfold gN
  have := Nat.gcd_pos_of_pos_right a.toNat (show 0 < b.toNat by omega)
  omega
theorem half_n (n m : Nat) (h0 : 0 < m) (h1 : m ≤ n) : 2 * (n % m) < n := by
  have a := Nat.div_add_mod n m
  have b := Nat.mod_lt n h0
  have c : 1 ≤ n / m := Nat.div_pos h1 h0
  have d : m * 1 ≤ m * (n / m) := Nat.mul_le_mul_left m c
  omega
theorem half_i {b r : Int} (h0 : 0 < r) (h1 : r ≤ b) : 2 * (b % r) < b := by
  obtain ⟨m, rfl⟩ := Int.eq_ofNat_of_zero_le (Int.le_of_lt h0)
  obtain ⟨n, rfl⟩ := Int.eq_ofNat_of_zero_le (show 0 ≤ b by omega)
  have e : ((n : Int) % (m : Int)) = ((n % m : Nat) : Int) := rfl
  have := half_n n m (by omega) (by omega)
  rw [e]
  omega

theorem g_C_commonDivisor_0 {Q : PQ} {h : HP} {y0 : Int} {y2 : Int} 
    (k1 : Wp true i_C_commonDivisor 9 [vj y0, vr 9999, vj y2, vr 9999, vj y0, vr 9999, vj y2, vr 9999, vi 0, vr 9999, vr 9999] [] h Q) :
    Wp true i_C_commonDivisor 0 [vj y0, vr 9999, vj y2, vr 9999, vr 9999, vr 9999, vr 9999, vr 9999, vr 9999, vr 9999, vr 9999] [] h Q := by
  refine r_lload_n (v := y0) f_210_0 rfl ?_
  refine r_lstore (ls' := [vj y0, vr 9999, vj y2, vr 9999, vj y0, vr 9999, vr 9999, vr 9999, vr 9999, vr 9999, vr 9999]) f_210_1 (Nat.le_of_ble_eq_true rfl) rfl ?_
  refine r_lload_n (v := y2) f_210_3 rfl ?_
  refine r_lstore (ls' := [vj y0, vr 9999, vj y2, vr 9999, vj y0, vr 9999, vj y2, vr 9999, vr 9999, vr 9999, vr 9999]) f_210_4 (Nat.le_of_ble_eq_true rfl) rfl ?_
  refine r_iconst f_210_6 (by decide) ?_
  refine r_istore (ls' := [vj y0, vr 9999, vj y2, vr 9999, vj y0, vr 9999, vj y2, vr 9999, vi 0, vr 9999, vr 9999]) f_210_7 (Nat.le_of_ble_eq_true rfl) rfl ?_
  exact k1

theorem g_C_commonDivisor_9 {Q : PQ} {h : HP} {y0 : Int} {y2 : Int} {y4 : Int} {y6 : Int} {x8 : Int} {j9 : AV} 
    (k1 : 100 ≤ x8 → Q (some (vj y4)) h)
    (k2 : ¬ 100 ≤ x8 → y6 ≤ 0 → Q (some (vj y4)) h)
    (o3 : ¬ 100 ≤ x8 → ¬ y6 ≤ 0 → 0 ≤ y4)
    (o4 : ¬ 100 ≤ x8 → ¬ y6 ≤ 0 → 0 < y6)
    (o5 : ¬ 100 ≤ x8 → ¬ y6 ≤ 0 → -2147483648 ≤ x8 + 1 ∧ x8 + 1 ≤ 2147483647)
    (k6 : ¬ 100 ≤ x8 → ¬ y6 ≤ 0 → Wp true i_C_commonDivisor 9 [vj y0, vr 9999, vj y2, vr 9999, vj y6, vr 9999, vj (y4 % y6), vr 9999, vi (x8 + 1), vj (y4 % y6), vr 9999] [] h Q) :
    Wp true i_C_commonDivisor 9 [vj y0, vr 9999, vj y2, vr 9999, vj y4, vr 9999, vj y6, vr 9999, vi x8, j9, vr 9999] [] h Q := by
  refine r_iload (v := x8) f_210_9 rfl ?_
  refine r_bipush f_210_11 (by decide) ?_
  refine r_br2 (t := 44) f_210_13 rfl cb_ge (fun c1 => ?_) (fun c1 => ?_)
  · refine r_lload (v := y4) f_210_44 rfl ?_
    exact r_retj f_210_46 rfl (k1 c1)
  · refine r_lload (v := y6) f_210_16 rfl ?_
    refine r_lconst (v := 0) f_210_18 rfl ?_
    refine r_lcmp f_210_19 ?_
    refine r_br (t := 44) f_210_20 rfl lc_le (fun c2 => ?_) (fun c2 => ?_)
    · refine r_lload (v := y4) f_210_44 rfl ?_
      exact r_retj f_210_46 rfl (k2 c1 c2)
    · refine r_lload (v := y4) f_210_23 rfl ?_
      refine r_lload (v := y6) f_210_25 rfl ?_
      refine r_lrem f_210_27 (o3 c1 c2) (o4 c1 c2) ?_
      refine r_lstore (ls' := [vj y0, vr 9999, vj y2, vr 9999, vj y4, vr 9999, vj y6, vr 9999, vi x8, vj (y4 % y6), vr 9999]) f_210_28 (Nat.le_of_ble_eq_true rfl) rfl ?_
      refine r_lload (v := y6) f_210_30 rfl ?_
      refine r_lstore (ls' := [vj y0, vr 9999, vj y2, vr 9999, vj y6, vr 9999, vj y6, vr 9999, vi x8, vj (y4 % y6), vr 9999]) f_210_32 (Nat.le_of_ble_eq_true rfl) rfl ?_
      refine r_lload (v := y4 % y6) f_210_34 rfl ?_
      refine r_lstore (ls' := [vj y0, vr 9999, vj y2, vr 9999, vj y6, vr 9999, vj (y4 % y6), vr 9999, vi x8, vj (y4 % y6), vr 9999]) f_210_36 (Nat.le_of_ble_eq_true rfl) rfl ?_
      refine r_iinc (v := x8) (w := x8 + 1) (ls' := [vj y0, vr 9999, vj y2, vr 9999, vj y6, vr 9999, vj (y4 % y6), vr 9999, vi (x8 + 1), vj (y4 % y6), vr 9999]) f_210_38 rfl rfl (o5 c1 c2) rfl ?_
      refine r_goto (t := 9) f_210_41 rfl ?_
      exact (k6 c1 c2)

theorem c_C_commonDivisor {Q : PQ} {h : HP} {y0 : Int} {y2 : Int} (o1 : 0 ≤ y0) (o2 : 0 ≤ y2 ∧ y2 < 2 ^ 40) (k : Q (some (vj (gN y0 y2))) h) :
    Wp true i_C_commonDivisor 0 [vj y0, vr 9999, vj y2, vr 9999, vr 9999, vr 9999, vr 9999, vr 9999, vr 9999, vr 9999, vr 9999] [] h Q := by
  refine g_C_commonDivisor_0 ?_
  have key : ∀ (k : Nat) (a b i : Int) (j : AV), 0 ≤ a → 0 ≤ b → b < 2 ^ k → 0 ≤ i → i + 2 * k + 1 ≤ 100 → Q (some (vj (gN a b))) h → Wp true i_C_commonDivisor 9 [vj y0, vr 9999, vj y2, vr 9999, vj a, vr 9999, vj b, vr 9999, vi (i), j, vr 9999] [] h Q := by
    intro k
    induction k with
    | zero =>
      intro a b i j ha hb hk hi hn kk
      have e : b = 0 := by
        have : (2 : Int) ^ 0 = 1 := rfl
        omega
      subst e
      rw [gN_0 ha] at kk
      refine g_C_commonDivisor_9 ?_ ?_ ?_ ?_ ?_ ?_
      · intro c1; (try simp only [Int.toNat_natCast] at c1); first | (exfalso; omega) | exact absurd trivial ‹¬ True› | (exact kk)
      · intro c1 c2; (try simp only [Int.toNat_natCast] at c1 c2); first | (exfalso; omega) | exact absurd trivial ‹¬ True› | (exact kk)
      · intro c1 c2; (try simp only [Int.toNat_natCast] at c1 c2); first | omega | (exfalso; omega) | exact ⟨by omega, by omega⟩ | (omega) | exact absurd trivial ‹¬ True›
      · intro c1 c2; (try simp only [Int.toNat_natCast] at c1 c2); first | omega | (exfalso; omega) | exact ⟨by omega, by omega⟩ | (omega) | exact absurd trivial ‹¬ True›
      · intro c1 c2; (try simp only [Int.toNat_natCast] at c1 c2); first | omega | (exfalso; omega) | exact ⟨by omega, by omega⟩ | (omega) | exact absurd trivial ‹¬ True›
      · intro c1 c2; (try simp only [Int.toNat_natCast] at c1 c2); first | (exfalso; omega) | exact absurd trivial ‹¬ True› | (skip)
    | succ k ih =>
      intro a b i j ha hb hk hi hn kk
      by_cases e : b = 0
      · subst e
        rw [gN_0 ha] at kk
        refine g_C_commonDivisor_9 ?_ ?_ ?_ ?_ ?_ ?_
        · intro c1; (try simp only [Int.toNat_natCast] at c1); first | (exfalso; omega) | exact absurd trivial ‹¬ True› | (exact kk)
        · intro c1 c2; (try simp only [Int.toNat_natCast] at c1 c2); first | (exfalso; omega) | exact absurd trivial ‹¬ True› | (exact kk)
        · intro c1 c2; (try simp only [Int.toNat_natCast] at c1 c2); first | omega | (exfalso; omega) | exact ⟨by omega, by omega⟩ | (omega) | exact absurd trivial ‹¬ True›
        · intro c1 c2; (try simp only [Int.toNat_natCast] at c1 c2); first | omega | (exfalso; omega) | exact ⟨by omega, by omega⟩ | (omega) | exact absurd trivial ‹¬ True›
        · intro c1 c2; (try simp only [Int.toNat_natCast] at c1 c2); first | omega | (exfalso; omega) | exact ⟨by omega, by omega⟩ | (omega) | exact absurd trivial ‹¬ True›
        · intro c1 c2; (try simp only [Int.toNat_natCast] at c1 c2); first | (exfalso; omega) | exact absurd trivial ‹¬ True› | (skip)
      · have hm1 := Int.emod_nonneg a e
        have hm2 := Int.emod_lt_of_pos a (show 0 < b by omega)
        rw [gN_step ha (by omega)] at kk
        have hp : (2 : Int) ^ (k + 1) = 2 * 2 ^ k := by rw [Int.pow_succ, Int.mul_comm]
        have next : Wp true i_C_commonDivisor 9 [vj y0, vr 9999, vj y2, vr 9999, vj b, vr 9999, vj (a % b), vr 9999, vi (i + 1), vj (a % b), vr 9999] [] h Q := by
          by_cases e2 : a % b = 0
          · rw [e2] at kk ⊢
            rw [gN_0 (by omega)] at kk
            refine g_C_commonDivisor_9 ?_ ?_ ?_ ?_ ?_ ?_
            · intro c1; (try simp only [Int.toNat_natCast] at c1); first | (exfalso; omega) | exact absurd trivial ‹¬ True› | (exact kk)
            · intro c1 c2; (try simp only [Int.toNat_natCast] at c1 c2); first | (exfalso; omega) | exact absurd trivial ‹¬ True› | (exact kk)
            · intro c1 c2; (try simp only [Int.toNat_natCast] at c1 c2); first | omega | (exfalso; omega) | exact ⟨by omega, by omega⟩ | (omega) | exact absurd trivial ‹¬ True›
            · intro c1 c2; (try simp only [Int.toNat_natCast] at c1 c2); first | omega | (exfalso; omega) | exact ⟨by omega, by omega⟩ | (omega) | exact absurd trivial ‹¬ True›
            · intro c1 c2; (try simp only [Int.toNat_natCast] at c1 c2); first | omega | (exfalso; omega) | exact ⟨by omega, by omega⟩ | (omega) | exact absurd trivial ‹¬ True›
            · intro c1 c2; (try simp only [Int.toNat_natCast] at c1 c2); first | (exfalso; omega) | exact absurd trivial ‹¬ True› | (skip)
          · rw [gN_step (by omega) (by omega)] at kk
            have h2 := half_i (b := b) (r := a % b) (by omega) (by omega)
            have h3 := Int.emod_nonneg b e2
            have nx2 := ih (a % b) (b % (a % b)) (i + 1 + 1) (vj (b % (a % b))) hm1 h3 (by omega) (by omega) (by omega) kk
            refine g_C_commonDivisor_9 ?_ ?_ ?_ ?_ ?_ ?_
            · intro c1; (try simp only [Int.toNat_natCast] at c1); first | (exfalso; omega) | exact absurd trivial ‹¬ True› | (skip)
            · intro c1 c2; (try simp only [Int.toNat_natCast] at c1 c2); first | (exfalso; omega) | exact absurd trivial ‹¬ True› | (skip)
            · intro c1 c2; (try simp only [Int.toNat_natCast] at c1 c2); first | omega | (exfalso; omega) | exact ⟨by omega, by omega⟩ | (omega) | exact absurd trivial ‹¬ True›
            · intro c1 c2; (try simp only [Int.toNat_natCast] at c1 c2); first | omega | (exfalso; omega) | exact ⟨by omega, by omega⟩ | (omega) | exact absurd trivial ‹¬ True›
            · intro c1 c2; (try simp only [Int.toNat_natCast] at c1 c2); first | omega | (exfalso; omega) | exact ⟨by omega, by omega⟩ | (omega) | exact absurd trivial ‹¬ True›
            · intro c1 c2; (try simp only [Int.toNat_natCast] at c1 c2); first | (exfalso; omega) | exact absurd trivial ‹¬ True› | (exact nx2)
        refine g_C_commonDivisor_9 ?_ ?_ ?_ ?_ ?_ ?_
        · intro c1; (try simp only [Int.toNat_natCast] at c1); first | (exfalso; omega) | exact absurd trivial ‹¬ True› | (skip)
        · intro c1 c2; (try simp only [Int.toNat_natCast] at c1 c2); first | (exfalso; omega) | exact absurd trivial ‹¬ True› | (skip)
        · intro c1 c2; (try simp only [Int.toNat_natCast] at c1 c2); first | omega | (exfalso; omega) | exact ⟨by omega, by omega⟩ | (omega) | exact absurd trivial ‹¬ True›
        · intro c1 c2; (try simp only [Int.toNat_natCast] at c1 c2); first | omega | (exfalso; omega) | exact ⟨by omega, by omega⟩ | (omega) | exact absurd trivial ‹¬ True›
        · intro c1 c2; (try simp only [Int.toNat_natCast] at c1 c2); first | omega | (exfalso; omega) | exact ⟨by omega, by omega⟩ | (omega) | exact absurd trivial ‹¬ True›
        · intro c1 c2; (try simp only [Int.toNat_natCast] at c1 c2); first | (exfalso; omega) | exact absurd trivial ‹¬ True› | (exact next)
  exact key 40 y0 y2 0 _ o1 o2.1 o2.2 (by omega) (by omega) k

theorem g_C_tellFraction_0 {Q : PQ} {h : HP} {y1 : Int} {y3 : Int} 
    (o1 : 0 ≤ y1)
    (o2 : 0 ≤ y3 ∧ y3 < 2 ^ 40)
    (k3 : gN y1 y3 ≤ 0 → Q none h)
    (o4 : ¬ gN y1 y3 ≤ 0 → 0 ≤ y1 ∧ y1 ≤ 9223372036854775807)
    (o5 : ¬ gN y1 y3 ≤ 0 → 0 < gN y1 y3)
    (o6 : ¬ gN y1 y3 ≤ 0 → 0 ≤ y3 ∧ y3 ≤ 9223372036854775807)
    (k7 : ¬ gN y1 y3 ≤ 0 → Q none (hs (hs h 0 1 (y1 / (gN y1 y3))) 0 2 (y3 / (gN y1 y3)))) :
    Wp true i_C_tellFraction 0 [vr 0, vj y1, vr 9999, vj y3, vr 9999, vr 9999, vr 9999] [] h Q := by
  refine r_lload_n (v := y1) f_209_0 rfl ?_
  refine r_lload_n (v := y3) f_209_1 rfl ?_
  refine r_calls (as := [vj y1, vj y3]) (st' := []) (ls0 := [vj y1, vr 9999, vj y3, vr 9999, vr 9999, vr 9999, vr 9999, vr 9999, vr 9999, vr 9999, vr 9999]) f_209_2 (by decide) (by decide) rfl rfl (Nat.le_of_ble_eq_true rfl) (Nat.le_of_ble_eq_true rfl) rfl ?_
  refine c_C_commonDivisor o1 o2 ?_
  show Wp true i_C_tellFraction 5 [vr 0, vj y1, vr 9999, vj y3, vr 9999, vr 9999, vr 9999] [vj (gN y1 y3)] h Q
  refine r_lstore (ls' := [vr 0, vj y1, vr 9999, vj y3, vr 9999, vj (gN y1 y3), vr 9999]) f_209_5 (Nat.le_of_ble_eq_true rfl) rfl ?_
  refine r_lload (v := gN y1 y3) f_209_7 rfl ?_
  refine r_lconst (v := 0) f_209_9 rfl ?_
  refine r_lcmp f_209_10 ?_
  refine r_br (t := 30) f_209_11 rfl lc_le (fun c1 => ?_) (fun c1 => ?_)
  · exact r_retv f_209_30 rfl (k3 c1)
  · refine r_aload_n (v := 0) f_209_14 rfl (by decide) ?_
    refine r_lload_n (v := y1) f_209_15 rfl ?_
    refine r_lload (v := gN y1 y3) f_209_16 rfl ?_
    refine r_ldiv f_209_18 (o4 c1) (o5 c1) ?_
    refine r_putj f_209_19 rfl (by decide) ?_
    refine r_aload_n (v := 0) f_209_22 rfl (by decide) ?_
    refine r_lload_n (v := y3) f_209_23 rfl ?_
    refine r_lload (v := gN y1 y3) f_209_24 rfl ?_
    refine r_ldiv f_209_26 (o6 c1) (o5 c1) ?_
    refine r_putj f_209_27 rfl (by decide) ?_
    exact r_retv f_209_30 rfl (k7 c1)

theorem c_C_tellFraction {Q : PQ} {h : HP} {y1 : Int} {y3 : Int} (o1 : 0 ≤ y1 ∧ y1 ≤ 9223372036854775807) (o2 : 0 < y3 ∧ y3 < 2 ^ 40) (k : Q (none) (hs (hs h 0 1 (y1 / gN y1 y3)) 0 2 (y3 / gN y1 y3))) :
    Wp true i_C_tellFraction 0 [vr 0, vj y1, vr 9999, vj y3, vr 9999, vr 9999, vr 9999] [] h Q := by
  have g := gN_pos (a := y1) o2.1
  have p : (2 : Int) ^ 40 = 1099511627776 := rfl
  refine g_C_tellFraction_0 ?_ ?_ ?_ ?_ ?_ ?_ ?_
  · first | omega | (exfalso; omega) | exact ⟨by omega, by omega⟩ | (first | omega | exact o2) | exact absurd trivial ‹¬ True›
  · first | omega | (exfalso; omega) | exact ⟨by omega, by omega⟩ | (first | omega | exact o2) | exact absurd trivial ‹¬ True›
  · intro c1; (try simp only [Int.toNat_natCast] at c1); first | (exfalso; omega) | exact absurd trivial ‹¬ True› | (skip)
  · intro c1; (try simp only [Int.toNat_natCast] at c1); first | omega | (exfalso; omega) | exact ⟨by omega, by omega⟩ | (first | omega | exact o2) | exact absurd trivial ‹¬ True›
  · intro c1; (try simp only [Int.toNat_natCast] at c1); first | omega | (exfalso; omega) | exact ⟨by omega, by omega⟩ | (first | omega | exact o2) | exact absurd trivial ‹¬ True›
  · intro c1; (try simp only [Int.toNat_natCast] at c1); first | omega | (exfalso; omega) | exact ⟨by omega, by omega⟩ | (first | omega | exact o2) | exact absurd trivial ‹¬ True›
  · intro c1; (try simp only [Int.toNat_natCast] at c1); first | (exfalso; omega) | exact absurd trivial ‹¬ True› | (exact k)

theorem g_M_tellsBy_0 {Q : PQ} {h : HP} {y1 : Int} {y3 : Int} 
    (k1 : Wp true i_M_tellsBy 6 [vr 103, vj y1, vr 9999, vj y3, vr 9999, vj y1, vr 9999, vj y3, vr 9999, vr 9999, vr 9999] [] h Q) :
    Wp true i_M_tellsBy 0 [vr 103, vj y1, vr 9999, vj y3, vr 9999, vr 9999, vr 9999, vr 9999, vr 9999, vr 9999, vr 9999] [] h Q := by
  refine r_lload_n (v := y1) f_230_0 rfl ?_
  refine r_lstore (ls' := [vr 103, vj y1, vr 9999, vj y3, vr 9999, vj y1, vr 9999, vr 9999, vr 9999, vr 9999, vr 9999]) f_230_1 (Nat.le_of_ble_eq_true rfl) rfl ?_
  refine r_lload_n (v := y3) f_230_3 rfl ?_
  refine r_lstore (ls' := [vr 103, vj y1, vr 9999, vj y3, vr 9999, vj y1, vr 9999, vj y3, vr 9999, vr 9999, vr 9999]) f_230_4 (Nat.le_of_ble_eq_true rfl) rfl ?_
  exact k1

theorem g_M_tellsBy_6 {Q : PQ} {h : HP} {y1 : Int} {y3 : Int} {y5 : Int} {y7 : Int} {j9 : AV} 
    (o1 : y7 = 0 → 0 ≤ y1 ∧ y1 ≤ 9223372036854775807)
    (o2 : y7 = 0 → 0 < y5)
    (o3 : y7 = 0 → 0 ≤ y3 ∧ y3 ≤ 9223372036854775807)
    (k4 : y7 = 0 → Q (some (vi (bi ((0 : Int) = 0)))) (hs (hs (hs h 103 3 (y1 / y5)) 103 4 (y3 / y5)) 103 2 0))
    (o5 : ¬ y7 = 0 → 0 ≤ y5)
    (o6 : ¬ y7 = 0 → 0 < y7)
    (k7 : ¬ y7 = 0 → Wp true i_M_tellsBy 6 [vr 103, vj y1, vr 9999, vj y3, vr 9999, vj y7, vr 9999, vj (y5 % y7), vr 9999, vj (y5 % y7), vr 9999] [] h Q) :
    Wp true i_M_tellsBy 6 [vr 103, vj y1, vr 9999, vj y3, vr 9999, vj y5, vr 9999, vj y7, vr 9999, j9, vr 9999] [] h Q := by
  refine r_lload (v := y7) f_230_6 rfl ?_
  refine r_lconst (v := 0) f_230_8 rfl ?_
  refine r_lcmp f_230_9 ?_
  refine r_br (t := 31) f_230_10 rfl lc_eq (fun c1 => ?_) (fun c1 => ?_)
  · refine r_aload_n (v := 103) f_230_31 rfl (by decide) ?_
    refine r_lload_n (v := y1) f_230_32 rfl ?_
    refine r_lload (v := y5) f_230_33 rfl ?_
    refine r_ldiv f_230_35 (o1 c1) (o2 c1) ?_
    refine r_putj f_230_36 rfl (by decide) ?_
    refine r_aload_n (v := 103) f_230_39 rfl (by decide) ?_
    refine r_lload_n (v := y3) f_230_40 rfl ?_
    refine r_lload (v := y5) f_230_41 rfl ?_
    refine r_ldiv f_230_43 (o3 c1) (o2 c1) ?_
    refine r_putj f_230_44 rfl (by decide) ?_
    refine r_aload_n (v := 103) f_230_47 rfl (by decide) ?_
    refine r_iconst f_230_48 (by decide) ?_
    refine r_callv (as := [vr 103, vi 0]) (st' := []) (ls0 := [vr 103, vi 0]) f_230_49 (by decide) rfl rfl (Nat.le_of_ble_eq_true rfl) (Nat.le_of_ble_eq_true rfl) ⟨_, _, rfl, rfl⟩ rfl ?_
    refine c_M_is  ?_
    show Wp true i_M_tellsBy 52 [vr 103, vj y1, vr 9999, vj y3, vr 9999, vj y5, vr 9999, vj y7, vr 9999, j9, vr 9999] [vi (bi ((0 : Int) = 0))] (hs (hs (hs h 103 3 (y1 / y5)) 103 4 (y3 / y5)) 103 2 0) Q
    exact r_retz f_230_52 rfl (bi_01 _) (k4 c1)
  · refine r_lload (v := y5) f_230_13 rfl ?_
    refine r_lload (v := y7) f_230_15 rfl ?_
    refine r_lrem f_230_17 (o5 c1) (o6 c1) ?_
    refine r_lstore (ls' := [vr 103, vj y1, vr 9999, vj y3, vr 9999, vj y5, vr 9999, vj y7, vr 9999, vj (y5 % y7), vr 9999]) f_230_18 (Nat.le_of_ble_eq_true rfl) rfl ?_
    refine r_lload (v := y7) f_230_20 rfl ?_
    refine r_lstore (ls' := [vr 103, vj y1, vr 9999, vj y3, vr 9999, vj y7, vr 9999, vj y7, vr 9999, vj (y5 % y7), vr 9999]) f_230_22 (Nat.le_of_ble_eq_true rfl) rfl ?_
    refine r_lload (v := y5 % y7) f_230_24 rfl ?_
    refine r_lstore (ls' := [vr 103, vj y1, vr 9999, vj y3, vr 9999, vj y7, vr 9999, vj (y5 % y7), vr 9999, vj (y5 % y7), vr 9999]) f_230_26 (Nat.le_of_ble_eq_true rfl) rfl ?_
    refine r_goto (t := 6) f_230_28 rfl ?_
    exact (k7 c1)

theorem c_M_tellsBy {Q : PQ} {h : HP} {y1 : Int} {y3 : Int} (o1 : 0 ≤ y1 ∧ y1 ≤ 9223372036854775807) (o2 : 0 < y3 ∧ y3 ≤ 9223372036854775807) (k : Q (some (vi (bi ((0 : Int) = 0)))) (hs (hs (hs h 103 3 (y1 / gN y1 y3)) 103 4 (y3 / gN y1 y3)) 103 2 0)) :
    Wp true i_M_tellsBy 0 [vr 103, vj y1, vr 9999, vj y3, vr 9999, vr 9999, vr 9999, vr 9999, vr 9999, vr 9999, vr 9999] [] h Q := by
  refine g_M_tellsBy_0 ?_
  have key : ∀ (n : Nat) (a b : Int) (j : AV), 0 ≤ a → 0 ≤ b → b ≤ n → gN a b = gN y1 y3 → 0 < gN y1 y3 → Wp true i_M_tellsBy 6 [vr 103, vj y1, vr 9999, vj y3, vr 9999, vj a, vr 9999, vj b, vr 9999, j, vr 9999] [] h Q := by
    intro n
    induction n with
    | zero =>
      intro a b j ha hb hn hg hp
      have e : b = 0 := by omega
      subst e
      rw [gN_0 ha] at hg
      subst hg
      refine g_M_tellsBy_6 ?_ ?_ ?_ ?_ ?_ ?_ ?_
      · intro c1; (try simp only [Int.toNat_natCast] at c1); first | omega | (exfalso; omega) | exact ⟨by omega, by omega⟩ | (omega) | exact absurd trivial ‹¬ True›
      · intro c1; (try simp only [Int.toNat_natCast] at c1); first | omega | (exfalso; omega) | exact ⟨by omega, by omega⟩ | (omega) | exact absurd trivial ‹¬ True›
      · intro c1; (try simp only [Int.toNat_natCast] at c1); first | omega | (exfalso; omega) | exact ⟨by omega, by omega⟩ | (omega) | exact absurd trivial ‹¬ True›
      · intro c1; (try simp only [Int.toNat_natCast] at c1); first | (exfalso; omega) | exact absurd trivial ‹¬ True› | (exact k)
      · intro c1; (try simp only [Int.toNat_natCast] at c1); first | omega | (exfalso; omega) | exact ⟨by omega, by omega⟩ | (omega) | exact absurd trivial ‹¬ True›
      · intro c1; (try simp only [Int.toNat_natCast] at c1); first | omega | (exfalso; omega) | exact ⟨by omega, by omega⟩ | (omega) | exact absurd trivial ‹¬ True›
      · intro c1; (try simp only [Int.toNat_natCast] at c1); first | (exfalso; omega) | exact absurd trivial ‹¬ True› | (skip)
    | succ n ih =>
      intro a b j ha hb hn hg hp
      by_cases e : b = 0
      · subst e
        rw [gN_0 ha] at hg
        subst hg
        refine g_M_tellsBy_6 ?_ ?_ ?_ ?_ ?_ ?_ ?_
        · intro c1; (try simp only [Int.toNat_natCast] at c1); first | omega | (exfalso; omega) | exact ⟨by omega, by omega⟩ | (omega) | exact absurd trivial ‹¬ True›
        · intro c1; (try simp only [Int.toNat_natCast] at c1); first | omega | (exfalso; omega) | exact ⟨by omega, by omega⟩ | (omega) | exact absurd trivial ‹¬ True›
        · intro c1; (try simp only [Int.toNat_natCast] at c1); first | omega | (exfalso; omega) | exact ⟨by omega, by omega⟩ | (omega) | exact absurd trivial ‹¬ True›
        · intro c1; (try simp only [Int.toNat_natCast] at c1); first | (exfalso; omega) | exact absurd trivial ‹¬ True› | (exact k)
        · intro c1; (try simp only [Int.toNat_natCast] at c1); first | omega | (exfalso; omega) | exact ⟨by omega, by omega⟩ | (omega) | exact absurd trivial ‹¬ True›
        · intro c1; (try simp only [Int.toNat_natCast] at c1); first | omega | (exfalso; omega) | exact ⟨by omega, by omega⟩ | (omega) | exact absurd trivial ‹¬ True›
        · intro c1; (try simp only [Int.toNat_natCast] at c1); first | (exfalso; omega) | exact absurd trivial ‹¬ True› | (skip)
      · have hm1 := Int.emod_nonneg a e
        have hm2 := Int.emod_lt_of_pos a (show 0 < b by omega)
        rw [gN_step ha (by omega)] at hg
        have nx := ih b (a % b) (vj (a % b)) hb hm1 (by omega) hg hp
        refine g_M_tellsBy_6 ?_ ?_ ?_ ?_ ?_ ?_ ?_
        · intro c1; (try simp only [Int.toNat_natCast] at c1); first | omega | (exfalso; omega) | exact ⟨by omega, by omega⟩ | (omega) | exact absurd trivial ‹¬ True›
        · intro c1; (try simp only [Int.toNat_natCast] at c1); first | omega | (exfalso; omega) | exact ⟨by omega, by omega⟩ | (omega) | exact absurd trivial ‹¬ True›
        · intro c1; (try simp only [Int.toNat_natCast] at c1); first | omega | (exfalso; omega) | exact ⟨by omega, by omega⟩ | (omega) | exact absurd trivial ‹¬ True›
        · intro c1; (try simp only [Int.toNat_natCast] at c1); first | (exfalso; omega) | exact absurd trivial ‹¬ True› | (skip)
        · intro c1; (try simp only [Int.toNat_natCast] at c1); first | omega | (exfalso; omega) | exact ⟨by omega, by omega⟩ | (omega) | exact absurd trivial ‹¬ True›
        · intro c1; (try simp only [Int.toNat_natCast] at c1); first | omega | (exfalso; omega) | exact ⟨by omega, by omega⟩ | (omega) | exact absurd trivial ‹¬ True›
        · intro c1; (try simp only [Int.toNat_natCast] at c1); first | (exfalso; omega) | exact absurd trivial ‹¬ True› | (exact nx)
  exact key y3.toNat y1 y3 _ o1.1 (by omega) (by omega) rfl (gN_pos o2.1)

theorem g_C_share_0 {Q : PQ} {h : HP} {x1 : Int} 
    (o1 : (x1 = 0 ∨ x1 = 1) → WR (rmC h 10))
    (o2 : (x1 = 0 ∨ x1 = 1) → x1 = 0 ∨ x1 = 1)
    (o3 : (x1 = 0 ∨ x1 = 1) → 0 < rVal (rmC h 10) 0 x1 + rVal (rmC h 10) 1 x1 → 0 ≤ (rVal (rmC h 10) x1 x1) ∧ (rVal (rmC h 10) x1 x1) ≤ 9223372036854775807)
    (o4 : (x1 = 0 ∨ x1 = 1) → 0 < rVal (rmC h 10) 0 x1 + rVal (rmC h 10) 1 x1 → 0 < (rVal (rmC h 10) 0 x1 + rVal (rmC h 10) 1 x1) ∧ (rVal (rmC h 10) 0 x1 + rVal (rmC h 10) 1 x1) < 2 ^ 40)
    (k5 : (x1 = 0 ∨ x1 = 1) → 0 < rVal (rmC h 10) 0 x1 + rVal (rmC h 10) 1 x1 → Q (some (vi (bi (True)))) (hs (hs (hs h 0 1 ((rVal (rmC h 10) x1 x1) / gN (rVal (rmC h 10) x1 x1) (rVal (rmC h 10) 0 x1 + rVal (rmC h 10) 1 x1))) 0 2 ((rVal (rmC h 10) 0 x1 + rVal (rmC h 10) 1 x1) / gN (rVal (rmC h 10) x1 x1) (rVal (rmC h 10) 0 x1 + rVal (rmC h 10) 1 x1))) 0 0 0))
    (k6 : (x1 = 0 ∨ x1 = 1) → ¬ 0 < rVal (rmC h 10) 0 x1 + rVal (rmC h 10) 1 x1 → Q (some (vi (bi (False)))) (hs h 0 0 6))
    (k7 : ¬ (x1 = 0 ∨ x1 = 1) → Q (some (vi (bi (False)))) (hs h 0 0 1)) :
    Wp true i_C_share 0 [vr 0, vi x1, vr 9999] [] h Q := by
  refine r_iload_n (v := x1) f_161_0 rfl ?_
  refine r_calls (as := [vi x1]) (st' := []) (ls0 := [vi x1]) f_161_1 (by decide) (by decide) rfl rfl (Nat.le_of_ble_eq_true rfl) (Nat.le_of_ble_eq_true rfl) rfl ?_
  refine c_C_isLand  ?_
  show Wp true i_C_share 4 [vr 0, vi x1, vr 9999] [vi (bi (x1 = 0 ∨ x1 = 1))] h Q
  refine r_br (t := 13) f_161_4 rfl cb_bt (fun c1 => ?_) (fun c1 => ?_)
  · refine r_aload_n (v := 0) f_161_13 rfl (by decide) ?_
    refine r_getr (q := 10) f_161_14 rfl (by decide) (Or.inl rfl) rfl ?_
    refine r_iload_n (v := x1) f_161_17 rfl ?_
    refine r_callv (as := [vr 10, vi x1]) (st' := []) (ls0 := [vr 10, vi x1]) f_161_18 (by decide) rfl rfl (Nat.le_of_ble_eq_true rfl) (Nat.le_of_ble_eq_true rfl) ⟨_, _, rfl, rfl⟩ rfl ?_
    refine c_Fl_worthOfAll isF_10 (o1 c1) (o2 c1) ?_
    show Wp true i_C_share 21 [vr 0, vi x1, vr 9999] [vi (rVal (rmC h 10) 0 x1 + rVal (rmC h 10) 1 x1)] h Q
    refine r_istore_n (ls' := [vr 0, vi x1, vi (rVal (rmC h 10) 0 x1 + rVal (rmC h 10) 1 x1)]) f_161_21 (Nat.le_of_ble_eq_true rfl) rfl ?_
    refine r_iload_n (v := rVal (rmC h 10) 0 x1 + rVal (rmC h 10) 1 x1) f_161_22 rfl ?_
    refine r_br (t := 33) f_161_23 rfl cb_gt (fun c2 => ?_) (fun c2 => ?_)
    · refine r_aload_n (v := 0) f_161_33 rfl (by decide) ?_
      refine r_aload_n (v := 0) f_161_34 rfl (by decide) ?_
      refine r_getr (q := 10) f_161_35 rfl (by decide) (Or.inl rfl) rfl ?_
      refine r_iload_n (v := x1) f_161_38 rfl ?_
      refine r_callv (as := [vr 10, vi x1]) (st' := [vr 0]) (ls0 := [vr 10, vi x1]) f_161_39 (by decide) rfl rfl (Nat.le_of_ble_eq_true rfl) (Nat.le_of_ble_eq_true rfl) ⟨_, _, rfl, rfl⟩ rfl ?_
      refine c_Fl_valueOf isF_10 (o1 c1) (o2 c1) ?_
      show Wp true i_C_share 42 [vr 0, vi x1, vi (rVal (rmC h 10) 0 x1 + rVal (rmC h 10) 1 x1)] [vi (rVal (rmC h 10) x1 x1), vr 0] h Q
      refine r_i2l f_161_42 ?_
      refine r_iload_n (v := rVal (rmC h 10) 0 x1 + rVal (rmC h 10) 1 x1) f_161_43 rfl ?_
      refine r_i2l f_161_44 ?_
      refine r_callv (as := [vr 0, vj (rVal (rmC h 10) x1 x1), vj (rVal (rmC h 10) 0 x1 + rVal (rmC h 10) 1 x1)]) (st' := []) (ls0 := [vr 0, vj (rVal (rmC h 10) x1 x1), vr 9999, vj (rVal (rmC h 10) 0 x1 + rVal (rmC h 10) 1 x1), vr 9999, vr 9999, vr 9999]) f_161_45 (by decide) rfl rfl (Nat.le_of_ble_eq_true rfl) (Nat.le_of_ble_eq_true rfl) ⟨_, _, rfl, rfl⟩ rfl ?_
      refine c_C_tellFraction (o3 c1 c2) (o4 c1 c2) ?_
      show Wp true i_C_share 48 [vr 0, vi x1, vi (rVal (rmC h 10) 0 x1 + rVal (rmC h 10) 1 x1)] [] (hs (hs h 0 1 ((rVal (rmC h 10) x1 x1) / gN (rVal (rmC h 10) x1 x1) (rVal (rmC h 10) 0 x1 + rVal (rmC h 10) 1 x1))) 0 2 ((rVal (rmC h 10) 0 x1 + rVal (rmC h 10) 1 x1) / gN (rVal (rmC h 10) x1 x1) (rVal (rmC h 10) 0 x1 + rVal (rmC h 10) 1 x1))) Q
      refine r_aload_n (v := 0) f_161_48 rfl (by decide) ?_
      refine r_callv (as := [vr 0]) (st' := []) (ls0 := [vr 0]) f_161_49 (by decide) rfl rfl (Nat.le_of_ble_eq_true rfl) (Nat.le_of_ble_eq_true rfl) ⟨_, _, rfl, rfl⟩ rfl ?_
      refine c_C_grant  ?_
      show Wp true i_C_share 52 [vr 0, vi x1, vi (rVal (rmC h 10) 0 x1 + rVal (rmC h 10) 1 x1)] [vi (bi (True))] (hs (hs (hs h 0 1 ((rVal (rmC h 10) x1 x1) / gN (rVal (rmC h 10) x1 x1) (rVal (rmC h 10) 0 x1 + rVal (rmC h 10) 1 x1))) 0 2 ((rVal (rmC h 10) 0 x1 + rVal (rmC h 10) 1 x1) / gN (rVal (rmC h 10) x1 x1) (rVal (rmC h 10) 0 x1 + rVal (rmC h 10) 1 x1))) 0 0 0) Q
      exact r_retz f_161_52 rfl (bi_01 _) (k5 c1 c2)
    · refine r_aload_n (v := 0) f_161_26 rfl (by decide) ?_
      refine r_bipush f_161_27 (by decide) ?_
      refine r_callv (as := [vr 0, vi 6]) (st' := []) (ls0 := [vr 0, vi 6]) f_161_29 (by decide) rfl rfl (Nat.le_of_ble_eq_true rfl) (Nat.le_of_ble_eq_true rfl) ⟨_, _, rfl, rfl⟩ rfl ?_
      refine c_C_deny  ?_
      show Wp true i_C_share 32 [vr 0, vi x1, vi (rVal (rmC h 10) 0 x1 + rVal (rmC h 10) 1 x1)] [vi (bi (False))] (hs h 0 0 6) Q
      exact r_retz f_161_32 rfl (bi_01 _) (k6 c1 c2)
  · refine r_aload_n (v := 0) f_161_7 rfl (by decide) ?_
    refine r_iconst f_161_8 (by decide) ?_
    refine r_callv (as := [vr 0, vi 1]) (st' := []) (ls0 := [vr 0, vi 1]) f_161_9 (by decide) rfl rfl (Nat.le_of_ble_eq_true rfl) (Nat.le_of_ble_eq_true rfl) ⟨_, _, rfl, rfl⟩ rfl ?_
    refine c_C_deny  ?_
    show Wp true i_C_share 12 [vr 0, vi x1, vr 9999] [vi (bi (False))] (hs h 0 0 1) Q
    exact r_retz f_161_12 rfl (bi_01 _) (k7 c1)

theorem g_M_share_0 {Q : PQ} {h : HP} {x1 : Int} 
    (o1 : (x1 = 0 ∨ x1 = 1) → WR (rmM h 0))
    (o2 : (x1 = 0 ∨ x1 = 1) → x1 = 0 ∨ x1 = 1)
    (o3 : (x1 = 0 ∨ x1 = 1) → ¬ rAll (rmM h 0) x1 = 0 → 0 ≤ (rVal (rmM h 0) x1 x1) ∧ (rVal (rmM h 0) x1 x1) ≤ 9223372036854775807)
    (o4 : (x1 = 0 ∨ x1 = 1) → ¬ rAll (rmM h 0) x1 = 0 → 0 < (rAll (rmM h 0) x1) ∧ (rAll (rmM h 0) x1) ≤ 9223372036854775807)
    (k5 : (x1 = 0 ∨ x1 = 1) → ¬ rAll (rmM h 0) x1 = 0 → Q (some (vi (bi ((0 : Int) = 0)))) (hs (hs (hs h 103 3 ((rVal (rmM h 0) x1 x1) / gN (rVal (rmM h 0) x1 x1) (rAll (rmM h 0) x1))) 103 4 ((rAll (rmM h 0) x1) / gN (rVal (rmM h 0) x1 x1) (rAll (rmM h 0) x1))) 103 2 0))
    (k6 : (x1 = 0 ∨ x1 = 1) → rAll (rmM h 0) x1 = 0 → Q (some (vi (bi ((6 : Int) = 0)))) (hs h 103 2 6))
    (k7 : ¬ (x1 = 0 ∨ x1 = 1) → Q (some (vi (bi ((1 : Int) = 0)))) (hs h 103 2 1)) :
    Wp true i_M_share 0 [vr 103, vi x1] [] h Q := by
  refine r_iload_n (v := x1) f_293_0 rfl ?_
  refine r_calls (as := [vi x1]) (st' := []) (ls0 := [vi x1]) f_293_1 (by decide) (by decide) rfl rfl (Nat.le_of_ble_eq_true rfl) (Nat.le_of_ble_eq_true rfl) rfl ?_
  refine c_M_isLand  ?_
  show Wp true i_M_share 4 [vr 103, vi x1] [vi (bi (x1 = 0 ∨ x1 = 1))] h Q
  refine r_br (t := 13) f_293_4 rfl cb_bt (fun c1 => ?_) (fun c1 => ?_)
  · refine r_aload_n (v := 103) f_293_13 rfl (by decide) ?_
    refine r_iload_n (v := x1) f_293_14 rfl ?_
    refine r_callv (as := [vr 103, vi x1]) (st' := []) (ls0 := [vr 103, vi x1, vr 9999, vr 9999]) f_293_15 (by decide) rfl rfl (Nat.le_of_ble_eq_true rfl) (Nat.le_of_ble_eq_true rfl) ⟨_, _, rfl, rfl⟩ rfl ?_
    refine c_M_worthOfAll (o1 c1) (o2 c1) ?_
    show Wp true i_M_share 18 [vr 103, vi x1] [vi (rAll (rmM h 0) x1)] h Q
    refine r_br (t := 30) f_293_18 rfl cb_ne (fun c2 => ?_) (fun c2 => ?_)
    · refine r_aload_n (v := 103) f_293_30 rfl (by decide) ?_
      refine r_aload_n (v := 103) f_293_31 rfl (by decide) ?_
      refine r_iload_n (v := x1) f_293_32 rfl ?_
      refine r_callv (as := [vr 103, vi x1]) (st' := [vr 103]) (ls0 := [vr 103, vi x1, vr 9999, vr 9999]) f_293_33 (by decide) rfl rfl (Nat.le_of_ble_eq_true rfl) (Nat.le_of_ble_eq_true rfl) ⟨_, _, rfl, rfl⟩ rfl ?_
      refine c_M_valueOf (o1 c1) (o2 c1) ?_
      show Wp true i_M_share 36 [vr 103, vi x1] [vi (rVal (rmM h 0) x1 x1), vr 103] h Q
      refine r_i2l f_293_36 ?_
      refine r_aload_n (v := 103) f_293_37 rfl (by decide) ?_
      refine r_iload_n (v := x1) f_293_38 rfl ?_
      refine r_callv (as := [vr 103, vi x1]) (st' := [vj (rVal (rmM h 0) x1 x1), vr 103]) (ls0 := [vr 103, vi x1, vr 9999, vr 9999]) f_293_39 (by decide) rfl rfl (Nat.le_of_ble_eq_true rfl) (Nat.le_of_ble_eq_true rfl) ⟨_, _, rfl, rfl⟩ rfl ?_
      refine c_M_worthOfAll (o1 c1) (o2 c1) ?_
      show Wp true i_M_share 42 [vr 103, vi x1] [vi (rAll (rmM h 0) x1), vj (rVal (rmM h 0) x1 x1), vr 103] h Q
      refine r_i2l f_293_42 ?_
      refine r_callv (as := [vr 103, vj (rVal (rmM h 0) x1 x1), vj (rAll (rmM h 0) x1)]) (st' := []) (ls0 := [vr 103, vj (rVal (rmM h 0) x1 x1), vr 9999, vj (rAll (rmM h 0) x1), vr 9999, vr 9999, vr 9999, vr 9999, vr 9999, vr 9999, vr 9999]) f_293_43 (by decide) rfl rfl (Nat.le_of_ble_eq_true rfl) (Nat.le_of_ble_eq_true rfl) ⟨_, _, rfl, rfl⟩ rfl ?_
      refine c_M_tellsBy (o3 c1 c2) (o4 c1 c2) ?_
      show Wp true i_M_share 46 [vr 103, vi x1] [vi (bi ((0 : Int) = 0))] (hs (hs (hs h 103 3 ((rVal (rmM h 0) x1 x1) / gN (rVal (rmM h 0) x1 x1) (rAll (rmM h 0) x1))) 103 4 ((rAll (rmM h 0) x1) / gN (rVal (rmM h 0) x1 x1) (rAll (rmM h 0) x1))) 103 2 0) Q
      exact r_retz f_293_46 rfl (bi_01 _) (k5 c1 c2)
    · have c2 := Decidable.not_not.mp c2
      refine r_aload_n (v := 103) f_293_21 rfl (by decide) ?_
      refine r_bipush f_293_22 (by decide) ?_
      refine r_callv (as := [vr 103, vi 6]) (st' := []) (ls0 := [vr 103, vi 6]) f_293_24 (by decide) rfl rfl (Nat.le_of_ble_eq_true rfl) (Nat.le_of_ble_eq_true rfl) ⟨_, _, rfl, rfl⟩ rfl ?_
      refine c_M_is  ?_
      show Wp true i_M_share 27 [vr 103, vi x1] [vi (bi ((6 : Int) = 0))] (hs h 103 2 6) Q
      refine r_goto (t := 46) f_293_27 rfl ?_
      exact r_retz f_293_46 rfl (bi_01 _) (k6 c1 c2)
  · refine r_aload_n (v := 103) f_293_7 rfl (by decide) ?_
    refine r_iconst f_293_8 (by decide) ?_
    refine r_callv (as := [vr 103, vi 1]) (st' := []) (ls0 := [vr 103, vi 1]) f_293_9 (by decide) rfl rfl (Nat.le_of_ble_eq_true rfl) (Nat.le_of_ble_eq_true rfl) ⟨_, _, rfl, rfl⟩ rfl ?_
    refine c_M_is  ?_
    show Wp true i_M_share 12 [vr 103, vi x1] [vi (bi ((1 : Int) = 0))] (hs h 103 2 1) Q
    exact r_retz f_293_12 rfl (bi_01 _) (k7 c1)

theorem A_share {n : Nat} {h : HP} {x1 : Int} (hR : Rel n h) : Agree n h i_C_share i_M_share [vr 0, vi x1, vr 9999] [vr 103, vi x1] := by
  have s := hR.2.2.2.2.2.1
  have hW := s.2.1
  have p40 : (2 : Int) ^ 40 = 1099511627776 := rfl
  have b1 := rVal_rg hW x1 x1
  have b2 := rVal_rg hW 0 x1
  have b3 := rVal_rg hW 1 x1
  have hA := rAll_eq hW x1
  by_cases c1 : x1 = 0 ∨ x1 = 1
  · by_cases c2 : 0 < rVal (rmC h 10) 0 x1 + rVal (rmC h 10) 1 x1
    · obtain ⟨T, hT⟩ : ∃ T, T = rVal (rmC h 10) x1 x1 / gN (rVal (rmC h 10) x1 x1) (rVal (rmC h 10) 0 x1 + rVal (rmC h 10) 1 x1) := ⟨_, rfl⟩
      obtain ⟨B, hB⟩ : ∃ B, B = (rVal (rmC h 10) 0 x1 + rVal (rmC h 10) 1 x1) / gN (rVal (rmC h 10) x1 x1) (rVal (rmC h 10) 0 x1 + rVal (rmC h 10) 1 x1) := ⟨_, rfl⟩
      have em : rmM (hs (hs (hs h 0 1 T) 0 2 B) 0 0 0) 0 = rmC h 10 := (rmM_congr (by rw [hs_ne (by decide), hs_ne (by decide), hs_ne (by decide)])).trans s.1.symm
      refine ⟨vi 1, fun h1 => h1 = hs (hs (hs h 0 1 T) 0 2 B) 0 0 0, fun h1 e => ?_, fun Q k => ?_, fun h1 Q e k => ?_⟩
      · subst e
        exact ⟨by rw [hs_ne (by decide), hs_ne (by decide), hs_ne (by decide)], by rw [hs_ne (by decide), hs_ne (by decide), hs_ne (by decide)]⟩
      · refine g_C_share_0 (fun _ => hW) (fun c => c) (fun _ _ => ⟨by omega, by omega⟩) (fun _ _ => ⟨c2, by omega⟩) (fun _ _ => ?_) (fun _ c => absurd c2 c) (fun c => absurd c1 c)
        rw [← hT, ← hB, bi_t trivial]
        exact k _ rfl
      · subst e
        refine g_M_share_0 (fun _ => by rw [em]; exact hW) (fun c => c) (fun _ _ => by rw [em]; exact ⟨by omega, by omega⟩) (fun _ _ => by rw [em]; exact ⟨by omega, by omega⟩) (fun _ _ => ?_) (fun _ c => by rw [em] at c; omega) (fun c => absurd c1 c)
        rw [em, hA, ← hT, ← hB, bi_t rfl]
        refine k _ (Rel_keep2 hR ?_ ?_ ?_ ?_ (fun i hi => ?_) (fun k k1 k2 k3 k4 => ?_)) ?_ ?_
        · simp [hs]
        · simp [hs]
        · simp [hs]
        · simp [hs]
        · have i1 : i ≠ 2 := by omega
          have i2 : i ≠ 3 := by omega
          have i3 : i ≠ 4 := by omega
          simp [hs, i1, i2, i3]
        · rw [hs_ne k3, hs_ne k3, hs_ne k3, hs_ne k2, hs_ne k2, hs_ne k2]
        · simp only [hs_ne (show (1000 : Nat) ≠ 103 by decide), hs_ne (show (1000 : Nat) ≠ 0 by decide)]
        · simp only [hs_ne (show (1001 : Nat) ≠ 103 by decide), hs_ne (show (1001 : Nat) ≠ 0 by decide)]
    · refine ag_q (v := vi 0) (st := 6) hR (fun Q k => ?_) (fun Q k => ?_)
      · refine g_C_share_0 (fun _ => hW) (fun c => c) (fun _ c => absurd c c2) (fun _ c => absurd c c2) (fun _ c => absurd c c2) (fun _ _ => ?_) (fun c => absurd c1 c)
        rw [bi_f (fun q => q)]
        exact k
      · have em : rmM (hs h 0 0 6) 0 = rmC h 10 := rm_q.trans s.1.symm
        refine g_M_share_0 (fun _ => by rw [em]; exact hW) (fun c => c) (fun _ c => by rw [em] at c; omega) (fun _ c => by rw [em] at c; omega) (fun _ c => by rw [em] at c; omega) (fun _ _ => ?_) (fun c => absurd c1 c)
        rw [bi_f (by decide)]
        exact k
  · refine ag_q (v := vi 0) (st := 1) hR (fun Q k => ?_) (fun Q k => ?_)
    · refine g_C_share_0 (fun c => absurd c c1) (fun c => absurd c c1) (fun c => absurd c c1) (fun c => absurd c c1) (fun c => absurd c c1) (fun c => absurd c c1) (fun _ => ?_)
      rw [bi_f (fun q => q)]
      exact k
    · refine g_M_share_0 (fun c => absurd c c1) (fun c => absurd c c1) (fun c => absurd c c1) (fun c => absurd c c1) (fun c => absurd c c1) (fun c => absurd c c1) (fun _ => ?_)
      rw [bi_f (by decide)]
      exact k
