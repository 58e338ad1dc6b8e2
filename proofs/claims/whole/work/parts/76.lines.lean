theorem g_C_lines_0 {Q : PQ} {h : HP} {x1 : Int} 
    (k1 : (0 ≤ x1 ∧ x1 ≤ 63) → Wp true i_Bo_howMany 0 [vr 92, vr 10, vi x1, vr 9999, vr 9999, vr 9999] [] (hs h 0 0 0) (fun r h' => Wp true i_C_lines 34 [vr 0, vi x1] (r.toList ++ []) h' Q))
    (k2 : ¬ (0 ≤ x1 ∧ x1 ≤ 63) → Q (some (vj (-1))) (hs h 0 0 1)) :
    Wp true i_C_lines 0 [vr 0, vi x1] [] h Q := by
  refine r_iload_n (v := x1) f_195_0 rfl ?_
  refine r_iconst f_195_1 (by decide) ?_
  refine r_bipush f_195_2 (by decide) ?_
  refine r_calls (as := [vi x1, vi 0, vi 63]) (st' := []) (ls0 := [vi x1, vi 0, vi 63]) f_195_4 (by decide) (by decide) rfl rfl (Nat.le_of_ble_eq_true rfl) (Nat.le_of_ble_eq_true rfl) rfl ?_
  refine c_C_within  ?_
  show Wp true i_C_lines 7 [vr 0, vi x1] [vi (bi (0 ≤ x1 ∧ x1 ≤ 63))] h Q
  refine r_br (t := 17) f_195_7 rfl cb_bt (fun c1 => ?_) (fun c1 => ?_)
  · refine r_aload_n (v := 0) f_195_17 rfl (by decide) ?_
    refine r_iconst f_195_18 (by decide) ?_
    refine r_puti f_195_19 rfl (by decide) ?_
    refine r_aload_n (v := 0) f_195_22 rfl (by decide) ?_
    refine r_getr (q := 92) f_195_23 rfl (by decide) (Or.inl rfl) rfl ?_
    refine r_aload_n (v := 0) f_195_26 rfl (by decide) ?_
    refine r_getr (q := 10) f_195_27 rfl (by decide) (Or.inl rfl) rfl ?_
    refine r_iload_n (v := x1) f_195_30 rfl ?_
    exact r_callv (as := [vr 92, vr 10, vi x1]) (st' := []) (ls0 := [vr 92, vr 10, vi x1, vr 9999, vr 9999, vr 9999]) f_195_31 (by decide) rfl rfl (Nat.le_of_ble_eq_true rfl) (Nat.le_of_ble_eq_true rfl) ⟨_, _, rfl, rfl⟩ rfl (k1 c1)
  · refine r_aload_n (v := 0) f_195_10 rfl (by decide) ?_
    refine r_iconst f_195_11 (by decide) ?_
    refine r_callv (as := [vr 0, vi 1]) (st' := []) (ls0 := [vr 0, vi 1]) f_195_12 (by decide) rfl rfl (Nat.le_of_ble_eq_true rfl) (Nat.le_of_ble_eq_true rfl) ⟨_, _, rfl, rfl⟩ rfl ?_
    refine c_C_refuse  ?_
    show Wp true i_C_lines 15 [vr 0, vi x1] [vi (-1)] (hs h 0 0 1) Q
    refine r_i2l f_195_15 ?_
    exact r_retj f_195_16 rfl (k2 c1)

theorem g_C_lines_34 {Q : PQ} {h : HP} {x1 : Int} {s0 : Int} 
    (k1 : Q (some (vj s0)) h) :
    Wp true i_C_lines 34 [vr 0, vi x1] [vj s0] h Q := by
  exact r_retj f_195_34 rfl k1

theorem g_M_lines_0 {Q : PQ} {h : HP} {x1 : Int} 
    (k1 : (0 ≤ x1 ∧ x1 ≤ 63) → ¬ h 104 1 = 0 → Wp true i_M_laysLines 0 [vr 103, vi x1, vr 9999, vr 9999, vr 9999, vr 9999, vr 9999, vr 9999, vr 9999, vr 9999, vr 9999, vr 9999, vr 9999] [] h (fun r h' => Wp true i_M_lines 45 [vr 103, vi x1, vr 9999, vr 9999] (r.toList ++ []) h' Q))
    (k2 : (0 ≤ x1 ∧ x1 ≤ 63) → h 104 1 = 0 → ¬ x1 = 0 → Wp true i_M_lines 45 [vr 103, vi x1, vr 9999, vr 9999] [vj 0] h Q)
    (k3 : (0 ≤ x1 ∧ x1 ≤ 63) → h 104 1 = 0 → x1 = 0 → Wp true i_M_lines 45 [vr 103, vi x1, vr 9999, vr 9999] [vj 1] h Q)
    (k4 : ¬ (0 ≤ x1 ∧ x1 ≤ 63) → Q (some (vj (-1))) (hs h 103 2 1)) :
    Wp true i_M_lines 0 [vr 103, vi x1, vr 9999, vr 9999] [] h Q := by
  refine r_iload_n (v := x1) f_352_0 rfl ?_
  refine r_i2l f_352_1 ?_
  refine r_lconst (v := 0) f_352_2 rfl ?_
  refine r_ldc2_w f_352_3 (by decide) ?_
  refine r_calls (as := [vj x1, vj 0, vj 63]) (st' := []) (ls0 := [vj x1, vr 9999, vj 0, vr 9999, vj 63, vr 9999]) f_352_6 (by decide) (by decide) rfl rfl (Nat.le_of_ble_eq_true rfl) (Nat.le_of_ble_eq_true rfl) rfl ?_
  refine c_M_isFrom  ?_
  show Wp true i_M_lines 9 [vr 103, vi x1, vr 9999, vr 9999] [vi (bi (0 ≤ x1 ∧ x1 ≤ 63))] h Q
  refine r_br (t := 19) f_352_9 rfl cb_bt (fun c1 => ?_) (fun c1 => ?_)
  · refine r_aload_n (v := 103) f_352_19 rfl (by decide) ?_
    refine r_getr (q := 104) f_352_20 rfl (by decide) (Or.inl rfl) rfl ?_
    refine r_iconst f_352_23 (by decide) ?_
    refine r_iaload (n := 3000) (v := h 104 1) f_352_24 ⟨rfl, rfl⟩ (by decide) rfl ?_
    refine r_br (t := 40) f_352_25 rfl cb_ne (fun c2 => ?_) (fun c2 => ?_)
    · refine r_aload_n (v := 103) f_352_40 rfl (by decide) ?_
      refine r_iload_n (v := x1) f_352_41 rfl ?_
      exact r_callv (as := [vr 103, vi x1]) (st' := []) (ls0 := [vr 103, vi x1, vr 9999, vr 9999, vr 9999, vr 9999, vr 9999, vr 9999, vr 9999, vr 9999, vr 9999, vr 9999, vr 9999]) f_352_42 (by decide) rfl rfl (Nat.le_of_ble_eq_true rfl) (Nat.le_of_ble_eq_true rfl) ⟨_, _, rfl, rfl⟩ rfl (k1 c1 c2)
    · have c2 := Decidable.not_not.mp c2
      refine r_iload_n (v := x1) f_352_28 rfl ?_
      refine r_br (t := 36) f_352_29 rfl cb_ne (fun c3 => ?_) (fun c3 => ?_)
      · refine r_lconst (v := 0) f_352_36 rfl ?_
        refine r_goto (t := 45) f_352_37 rfl ?_
        exact (k2 c1 c2 c3)
      · have c3 := Decidable.not_not.mp c3
        refine r_lconst (v := 1) f_352_32 rfl ?_
        refine r_goto (t := 45) f_352_33 rfl ?_
        exact (k3 c1 c2 c3)
  · refine r_aload_n (v := 103) f_352_12 rfl (by decide) ?_
    refine r_iconst f_352_13 (by decide) ?_
    refine r_callv (as := [vr 103, vi 1]) (st' := []) (ls0 := [vr 103, vi 1]) f_352_14 (by decide) rfl rfl (Nat.le_of_ble_eq_true rfl) (Nat.le_of_ble_eq_true rfl) ⟨_, _, rfl, rfl⟩ rfl ?_
    refine c_M_refuse  ?_
    show Wp true i_M_lines 17 [vr 103, vi x1, vr 9999, vr 9999] [vi (-1)] (hs h 103 2 1) Q
    refine r_i2l f_352_17 ?_
    exact r_retj f_352_18 rfl (k4 c1)

theorem g_M_lines_45 {Q : PQ} {h : HP} {x1 : Int} {s0 : Int} 
    (k1 : Q (some (vj s0)) (hs h 103 2 0)) :
    Wp true i_M_lines 45 [vr 103, vi x1, vr 9999, vr 9999] [vj s0] h Q := by
  refine r_lstore_n (ls' := [vr 103, vi x1, vj s0, vr 9999]) f_352_45 (Nat.le_of_ble_eq_true rfl) rfl ?_
  refine r_aload_n (v := 103) f_352_46 rfl (by decide) ?_
  refine r_iconst f_352_47 (by decide) ?_
  refine r_puti f_352_48 rfl (by decide) ?_
  refine r_lload_n (v := s0) f_352_51 rfl ?_
  exact r_retj f_352_52 rfl k1

theorem upL_hi' {R : HP} {k l n : Nat} (h : l ≤ n) (h2 : ((k : Int) + 1) * R 0 0 < ((n - l : Nat) : Int)) (w : 0 ≤ R 0 0) : upL R (k + 1) l n = 0 := by
  rw [upL_win h]
  unfold winS
  refine sumF_zero _ _ (fun o _ ho => ?_)
  show (if _ then upL R k o (n - l) else 0) = 0
  rw [upL_hi k o (n - l) (by omega) h2]
  split <;> rfl
theorem upL_lo {R : HP} {k l n : Nat} (h : ¬ l ≤ n) : upL R (k + 1) l n = 0 := if_neg h
def TW (R : HP) (a : Nat) (h : HP) (k : Nat) : Prop := ∀ c n : Nat, (c : Int) ≤ R 0 0 → n ≤ 63 → h a (64 * c + n) = upL R k c n
theorem c_Bo_addRow {Q : PQ} {h R : HP} {f1 k : Nat} (h_f1 : isF f1) (eR : rmC h f1 = R) (W : WR R) (hk : k ≤ 5) (T : TW R 94 h k)
    (kk : ∀ h', (∀ k, k ≠ 94 → k ≠ 95 → h' k = h k) → TW R 94 h' (k + 1) → Q none h') : Wp true i_Bo_addRow 0 [vr 92, vr f1, vi ((k : Int) + 1), vr 9999] [] h Q := by
  have w := W.1
  have d0 := cdim eR
  have fl : f1 + 8 ≤ 82 := by unfold isF at h_f1; omega
  have fr : ∀ h1 : HP, (∀ k, k ≠ 94 → k ≠ 95 → h1 k = h k) → rmC h1 f1 = R := fun h1 f => (rC_frame h_f1 (fun k hk => f k (by omega) (by omega))).trans eR
  have mb := mul_b (a := (k : Int) + 1) (b := R 0 0) (by omega) (by omega) (by omega) (by omega)
  obtain ⟨M, eM⟩ : ∃ M : Nat, ((k : Int) + 1) * R 0 0 = M := ⟨(((k : Int) + 1) * R 0 0).toNat, by omega⟩
  rw [eM] at mb
  have key : ∀ (d s : Nat) (h1 : HP), s + d = M + 1 → (∀ k, k ≠ 94 → k ≠ 95 → h1 k = h k) → TW R 95 h1 k → (∀ c n : Nat, (c : Int) ≤ R 0 0 → n ≤ 63 → h1 94 (64 * c + n) = if c ≤ n ∧ n - c < s then upL R (k + 1) c n else 0) → Wp true i_Bo_addRow 26 [vr 92, vr f1, vi ((k : Int) + 1), vi (s : Int)] [] h1 Q := by
    intro d
    induction d with
    | zero =>
      intro s h1 e f B I
      have dd := cdim (fr h1 f)
      rw [dd.1.symm] at eM
      have fin : Q none h1 := kk h1 f (fun c n a b => by
        rw [I c n a b]
        by_cases z : c ≤ n
        · by_cases y : n - c < s
          · rw [if_pos ⟨z, y⟩]
          · rw [if_neg (fun q => y q.2), upL_hi' z (by rw [← dd.1, eM]; omega) (by omega)]
        · rw [if_neg (fun q => z q.1), upL_lo z])
      exact g_Bo_addRow_26 h_f1 (by rw [eM]; omega) (fun _ => fin) (fun q => by rw [eM] at q; omega)
    | succ d ih =>
      intro s h1 e f B I
      have dd := cdim (fr h1 f)
      have eM' : ((k : Int) + 1) * h1 f1 0 = M := by rw [dd.1]; exact eM
      refine g_Bo_addRow_26 h_f1 (by rw [eM']; omega) (fun q => by rw [eM'] at q; omega) (fun _ => ?_)
      refine c_Bo_addCuts h_f1 (fr h1 f) W hk (by omega) (fun o ho => B o s ho (by omega)) (fun h' f' I' => ?_)
      refine g_Bo_addRow_42 h_f1 (by omega) ?_
      refine ih (s + 1) h' (by omega) (fun k k1 k2 => (f' k k1).trans (f k k1 k2)) (fun c n a b => ?_) (fun c n a b => ?_)
      · rw [f' 95 (by decide)]; exact B c n a b
      · rw [I' c n a b, I c n a b]
        by_cases z : n = s + c
        · rw [if_pos z, if_pos ⟨by omega, by omega⟩]
        · rw [if_neg z]
          by_cases y : c ≤ n ∧ n - c < s
          · rw [if_pos y, if_pos ⟨y.1, by omega⟩]
          · rw [if_neg y, if_neg (fun q => y ⟨q.1, by omega⟩)]
  refine g_Bo_addRow_0 h_f1 ?_
  rw [cpy_wr]
  refine c_Ar_fillJ (n0 := 640) ⟨rfl, rfl⟩ (by decide) (by decide) (g_Bo_addRow_24 h_f1 ?_)
  refine key (M + 1) 0 _ (by omega) (fun k k1 k2 => (wr_ne k1).trans (wr_ne k2)) (fun c n a b => ?_) (fun c n a b => ?_)
  · rw [wr_ne (by decide), wr_in ⟨by omega, by omega⟩]
    show h 94 (0 + (64 * c + n - 0)) = _
    rw [show 0 + (64 * c + n - 0) = 64 * c + n by omega]
    exact T c n a b
  · rw [wr_in ⟨by omega, by omega⟩, if_neg (fun q => by omega)]
noncomputable def liN (R : HP) (b : Nat) : Int := if 0 < R 0 1 then sumF (fun c => upL R ((R 0 1).toNat - 1) c b) ((R 0 0).toNat + 1) 0 else (if b = 0 then 1 else 0)
theorem c_Bo_howMany {Q : PQ} {h R : HP} {f1 b : Nat} (h_f1 : isF f1) (eR : rmC h f1 = R) (W : WR R) (hb : b ≤ 63)
    (kk : ∀ h', (∀ k, k ≠ 94 → k ≠ 95 → h' k = h k) → Q (some (vj (liN R b))) h') : Wp true i_Bo_howMany 0 [vr 92, vr f1, vi (b : Int), vr 9999, vr 9999, vr 9999] [] h Q := by
  have w := W.1
  have d0 := cdim eR
  have fl : f1 + 8 ≤ 82 := by unfold isF at h_f1; omega
  have fr : ∀ h1 : HP, (∀ k, k ≠ 94 → k ≠ 95 → h1 k = h k) → rmC h1 f1 = R := fun h1 f => (rC_frame h_f1 (fun k hk => f k (by omega) (by omega))).trans eR
  by_cases hd : 0 < R 0 1
  · have last : ∀ (d c : Nat) (h1 : HP), (c : Int) + d = R 0 0 + 1 → (∀ k, k ≠ 94 → k ≠ 95 → h1 k = h k) → TW R 94 h1 ((R 0 1).toNat - 1) → Wp true i_Bo_howMany 80 [vr 92, vr f1, vi (b : Int), vj (sumF (fun c => upL R ((R 0 1).toNat - 1) c b) c 0), vr 9999, vi (c : Int)] [] h1 Q := by
      intro d
      induction d with
      | zero =>
        intro c h1 e f T
        have dd := cdim (fr h1 f)
        have k := kk h1 f
        unfold liN at k
        rw [if_pos hd, show (R 0 0).toNat + 1 = c by omega] at k
        exact g_Bo_howMany_80 h_f1 (fun _ => k) (fun q => by omega) (fun q => by omega) (fun q => by omega) (fun q => by omega) (fun q => by omega) (fun q => by omega)
      | succ d ih =>
        intro c h1 e f T
        have dd := cdim (fr h1 f)
        have v := T c b (by omega) hb
        have ix : ((c : Int) * 64 + (b : Int)).toNat = 64 * c + b := by omega
        have nx := ih (c + 1) h1 (by omega) f T
        rw [sumF_last] at nx
        have ub := upL_b W (k := (R 0 1).toNat - 1) (l := c) (n := b) (by omega)
        have sr := sumF_rng (f := fun c => upL R ((R 0 1).toNat - 1) c b) (a := 0) (b := 1000000) c 0 (fun j _ _ => upL_b W (by omega))
        refine g_Bo_howMany_80 h_f1 (fun q => by omega) (fun _ => by omega) (fun _ => by omega) (fun _ => by omega) (fun _ => by rw [ix, v]; omega) (fun _ => by omega) (fun _ => ?_)
        rw [ix, v]
        exact nx
    have rows : ∀ (d i : Nat) (h1 : HP), (i : Int) + 1 + d = R 0 1 → (∀ k, k ≠ 94 → k ≠ 95 → h1 k = h k) → TW R 94 h1 i → Wp true i_Bo_howMany 55 [vr 92, vr f1, vi (b : Int), vi ((i : Int) + 1), vr 9999, vr 9999] [] h1 Q := by
      intro d
      induction d with
      | zero =>
        intro i h1 e f T
        have dd := cdim (fr h1 f)
        refine g_Bo_howMany_55 h_f1 (fun _ => ?_) (fun q => by omega)
        exact last ((R 0 0).toNat + 1) 0 h1 (by omega) f (by rw [show (R 0 1).toNat - 1 = i by omega]; exact T)
      | succ d ih =>
        intro i h1 e f T
        have dd := cdim (fr h1 f)
        refine g_Bo_howMany_55 h_f1 (fun q => by omega) (fun _ => ?_)
        refine c_Bo_addRow h_f1 (fr h1 f) W (by omega) T (fun h' f' T' => ?_)
        exact g_Bo_howMany_69 h_f1 (by omega) (ih (i + 1) h' (by omega) (fun k k1 k2 => (f' k k1 k2).trans (f k k1 k2)) T')
    have init : ∀ (d c : Nat) (h1 : HP), (c : Int) + d = R 0 0 + 1 → (∀ k, k ≠ 94 → k ≠ 95 → h1 k = h k) → (∀ c' n : Nat, (c' : Int) ≤ R 0 0 → n ≤ 63 → h1 94 (64 * c' + n) = if n = c' ∧ c' < c then 1 else 0) → Wp true i_Bo_howMany 27 [vr 92, vr f1, vi (b : Int), vi (c : Int), vr 9999, vr 9999] [] h1 Q := by
      intro d
      induction d with
      | zero =>
        intro c h1 e f I
        have dd := cdim (fr h1 f)
        refine g_Bo_howMany_27 h_f1 (fun _ => ?_) (fun q => by omega) (fun q => by omega) (fun q => by omega) (fun q => by omega) (fun q => by omega)
        exact rows ((R 0 1).toNat - 1) 0 h1 (by omega) f (fun c' n a b => by
          rw [I c' n a b]
          simp only [upL]
          by_cases z : n = c'
          · rw [if_pos ⟨z, by omega⟩, if_pos z]
          · rw [if_neg (fun q => z q.1), if_neg z])
      | succ d ih =>
        intro c h1 e f I
        have dd := cdim (fr h1 f)
        refine g_Bo_howMany_27 h_f1 (fun q => by omega) (fun _ => by omega) (fun _ => by omega) (fun _ => by omega) (fun _ => by omega) (fun _ => ?_)
        rw [show ((c : Int) * 64 + (c : Int)).toNat = 64 * c + c by omega]
        refine ih (c + 1) _ (by omega) (fun k k1 k2 => (hs_ne k1).trans (f k k1 k2)) (fun c' n a b => ?_)
        by_cases z : c' = c ∧ n = c
        · obtain ⟨rfl, rfl⟩ := z
          rw [hs_s, if_pos ⟨rfl, by omega⟩]
        · rw [hs_o (Or.inr (by omega)), I c' n a b]
          by_cases y1 : n = c' ∧ c' < c
          · rw [if_pos y1, if_pos ⟨y1.1, by omega⟩]
          · rw [if_neg y1, if_neg (fun y2 => by omega)]
    refine g_Bo_howMany_0 h_f1 (fun _ => ?_) (fun q => by omega) (fun q => by omega)
    refine c_Ar_fillJ (n0 := 640) ⟨rfl, rfl⟩ (by decide) (by decide) (g_Bo_howMany_25 h_f1 ?_)
    refine init ((R 0 0).toNat + 1) 0 _ (by omega) (fun k k1 k2 => wr_ne k1) (fun c n a b => ?_)
    rw [wr_in ⟨by omega, by omega⟩, if_neg (fun q => by omega)]
  · have k := kk h (fun _ _ _ => rfl)
    unfold liN at k
    rw [if_neg hd] at k
    refine g_Bo_howMany_0 h_f1 (fun q => by omega) (fun _ q => ?_) (fun _ q => ?_)
    · rw [if_neg (by omega)] at k; exact k
    · rw [if_pos (by omega)] at k; exact k
