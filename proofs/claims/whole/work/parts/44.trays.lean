/-! ===== arrays written in a row ===== -/
def wr (h : HP) (k a n : Nat) (T : Nat → Int) : HP := fun k' i => if k' = k ∧ a ≤ i ∧ i < a + n then T (i - a) else h k' i
theorem wr_0 {h : HP} {k a : Nat} {T : Nat → Int} : wr h k a 0 T = h := by
  funext k' i
  simp only [wr]
  rw [if_neg (by omega)]
theorem wr_s {h : HP} {k a n : Nat} {T : Nat → Int} : hs (wr h k a n T) k (a + n) (T n) = wr h k a (n + 1) T := by
  funext k' i
  simp only [wr, hs]
  by_cases c : k' = k ∧ i = a + n
  · obtain ⟨rfl, rfl⟩ := c
    rw [if_pos ⟨rfl, rfl⟩, if_pos (by omega)]
    congr 1; omega
  · rw [if_neg c]
    by_cases d : k' = k ∧ a ≤ i ∧ i < a + n
    · rw [if_pos d, if_pos (by omega)]
    · rw [if_neg d, if_neg (by omega)]
theorem wr_ne {h : HP} {k a n k' : Nat} {T : Nat → Int} (hk : k' ≠ k) : wr h k a n T k' = h k' := by
  funext i
  simp only [wr]
  rw [if_neg (by omega)]
theorem wr_in {h : HP} {k a n i : Nat} {T : Nat → Int} (hi : a ≤ i ∧ i < a + n) : wr h k a n T k i = T (i - a) := if_pos ⟨rfl, hi⟩
theorem wr_out {h : HP} {k a n i k' : Nat} {T : Nat → Int} (hi : ¬ (k' = k ∧ a ≤ i ∧ i < a + n)) : wr h k a n T k' i = h k' i := by
  simp only [wr]
  rw [if_neg hi]
theorem wr_congr {h : HP} {k a n : Nat} {T T' : Nat → Int} (e : ∀ j, j < n → T j = T' j) : wr h k a n T = wr h k a n T' := by
  funext k' i
  simp only [wr]
  split
  · rename_i q; exact e (i - a) (by omega)
  · rfl
theorem cpy_wr {h : HP} {a sp b dp n : Nat} : cpy h a sp b dp n = wr h b dp n (fun j => h a (sp + j)) := rfl
theorem sFit_9 {s v : Int} (hv : 0 ≤ v ∧ v ≤ 9) : sFit s v = v := by
  unfold sFit w8 w16 w32
  split <;> (try split) <;> (try split) <;> omega
theorem RT_1 {h : HP} (hT : RTray h) {t : Int} (ht : 0 ≤ t ∧ t < 4) : (h 3 t.toNat = -1 ∧ h 107 t.toNat = -1) ∨ ((0 ≤ h 3 t.toNat ∧ h 3 t.toNat ≤ 3) ∧ h 3 t.toNat = h 106 t.toNat ∧ h 4 t.toNat = h 107 t.toNat ∧ (0 ≤ h 4 t.toNat ∧ h 4 t.toNat ≤ 60)) := by
  rcases hT t.toNat (by omega) with a | ⟨a, b, c, d, -⟩
  · exact Or.inl a
  · exact Or.inr ⟨a, b, c, d⟩
/-- a call on trays: what the class writes (cells 2, 3, 4), then what the reference writes (106, 107, 108) -/
theorem ag_tray {n : Nat} {h hc1 : HP} {ic im : Nat} {lc lm : List AV} {v : AV} {st : Int} (mm : HP → HP) (hR : Rel n h)
    (kc : ∀ k, ¬ (2 ≤ k ∧ k ≤ 4) → hc1 k = h k) (km : ∀ g k, ¬ (106 ≤ k ∧ k ≤ 108) → mm g k = g k)
    (hT : RTray (hs (mm (hs hc1 0 0 st)) 103 2 st))
    (hc : ∀ Q : PQ, Q (some v) (hs hc1 0 0 st) → Wp true ic 0 lc [] h Q)
    (hm : ∀ (g : HP) (Q : PQ), (∀ k, 103 ≤ k → g k = h k) → Q (some v) (hs (mm g) 103 2 st) → Wp true im 0 lm [] g Q) : Agree n h ic im lc lm := by
  have gk : ∀ k, k ≠ 0 → ¬ (2 ≤ k ∧ k ≤ 4) → hs hc1 0 0 st k = h k := fun k k1 k2 => by rw [hs_ne k1, kc k k2]
  refine ⟨v, fun h1 => h1 = hs hc1 0 0 st, fun h1 e => ?_, fun Q k => hc Q (k _ rfl), fun h1 Q e k => ?_⟩
  · subst e
    exact ⟨gk 1000 (by decide) (by decide), gk 1001 (by decide) (by decide)⟩
  · subst e
    refine hm _ Q (fun k hk => gk k (by omega) (by omega)) (k _ (Rel_tray hR ?_ (fun i hi => ?_) (fun i hi => ?_) (fun k k1 k2 k3 k4 => ?_) hT) ?_ ?_)
    · have e0 : hs (mm (hs hc1 0 0 st)) 103 2 st 0 0 = st := by
        rw [hs_ne (by decide), km _ 0 (by decide)]; exact hs_s
      rw [e0]; exact hs_s.symm
    · rw [hs_ne (by decide), km _ 0 (by decide), hs_o (Or.inr hi), kc 0 (by decide)]
    · rw [hs_o (Or.inr hi), km _ 103 (by decide), gk 103 (by decide) (by decide)]
    · rw [hs_ne k2, km _ k k4, gk k k1 k3]
    · rw [hs_ne (by decide), km _ 1000 (by decide), gk 1000 (by decide) (by decide)]
    · rw [hs_ne (by decide), km _ 1001 (by decide), gk 1001 (by decide) (by decide)]

theorem g_C_write_0 {Q : PQ} {h : HP} {x1 : Int} {x2 : Int} {y3 : Int} 
    (o1 : -2147483648 ≤ x2 ∧ x2 ≤ 2147483647)
    (o2 : sTr (h 3) (h 4) x1 x2 = 0 → 0 ≤ x1 ∧ x1 < 4)
    (o3 : sTr (h 3) (h 4) x1 x2 = 0 → 0 ≤ x2 ∧ x2 < 60)
    (k4 : sTr (h 3) (h 4) x1 x2 = 0 → Q (some (vi (bi (True)))) (hs (hs h 2 (x1 * 60 + x2).toNat (sFit (h 3 x1.toNat) y3)) 0 0 0))
    (k5 : ¬ sTr (h 3) (h 4) x1 x2 = 0 → Q (some (vi (bi (False)))) (hs h 0 0 (sTr (h 3) (h 4) x1 x2))) :
    Wp true i_C_write 0 [vr 0, vi x1, vi x2, vj y3, vr 9999, vr 9999] [] h Q := by
  refine r_aload_n (v := 0) f_146_0 rfl (by decide) ?_
  refine r_iload_n (v := x1) f_146_1 rfl ?_
  refine r_iload_n (v := x2) f_146_2 rfl ?_
  refine r_callv (as := [vr 0, vi x1, vi x2]) (st' := []) (ls0 := [vr 0, vi x1, vi x2]) f_146_3 (by decide) rfl rfl (Nat.le_of_ble_eq_true rfl) (Nat.le_of_ble_eq_true rfl) ⟨_, _, rfl, rfl⟩ rfl ?_
  refine c_C_trayTrouble o1 ?_
  show Wp true i_C_write 6 [vr 0, vi x1, vi x2, vj y3, vr 9999, vr 9999] [vi (sTr (h 3) (h 4) x1 x2)] h Q
  refine r_istore (ls' := [vr 0, vi x1, vi x2, vj y3, vr 9999, vi (sTr (h 3) (h 4) x1 x2)]) f_146_6 (Nat.le_of_ble_eq_true rfl) rfl ?_
  refine r_iload (v := sTr (h 3) (h 4) x1 x2) f_146_8 rfl ?_
  refine r_br (t := 20) f_146_10 rfl cb_eq (fun c1 => ?_) (fun c1 => ?_)
  · refine r_aload_n (v := 0) f_146_20 rfl (by decide) ?_
    refine r_getr (q := 1) f_146_21 rfl (by decide) (Or.inl rfl) rfl ?_
    refine r_iload_n (v := x1) f_146_24 rfl ?_
    refine r_iload_n (v := x2) f_146_25 rfl ?_
    refine r_lload_n (v := y3) f_146_26 rfl ?_
    refine r_callv (as := [vr 1, vi x1, vi x2, vj y3]) (st' := []) (ls0 := [vr 1, vi x1, vi x2, vj y3, vr 9999]) f_146_27 (by decide) rfl rfl (Nat.le_of_ble_eq_true rfl) (Nat.le_of_ble_eq_true rfl) ⟨_, _, rfl, rfl⟩ rfl ?_
    refine c_Ty_put (o2 c1) (o3 c1) ?_
    show Wp true i_C_write 30 [vr 0, vi x1, vi x2, vj y3, vr 9999, vi (sTr (h 3) (h 4) x1 x2)] [] (hs h 2 (x1 * 60 + x2).toNat (sFit (h 3 x1.toNat) y3)) Q
    refine r_aload_n (v := 0) f_146_30 rfl (by decide) ?_
    refine r_callv (as := [vr 0]) (st' := []) (ls0 := [vr 0]) f_146_31 (by decide) rfl rfl (Nat.le_of_ble_eq_true rfl) (Nat.le_of_ble_eq_true rfl) ⟨_, _, rfl, rfl⟩ rfl ?_
    refine c_C_grant  ?_
    show Wp true i_C_write 34 [vr 0, vi x1, vi x2, vj y3, vr 9999, vi (sTr (h 3) (h 4) x1 x2)] [vi (bi (True))] (hs (hs h 2 (x1 * 60 + x2).toNat (sFit (h 3 x1.toNat) y3)) 0 0 0) Q
    exact r_retz f_146_34 rfl (bi_01 _) (k4 c1)
  · refine r_aload_n (v := 0) f_146_13 rfl (by decide) ?_
    refine r_iload (v := sTr (h 3) (h 4) x1 x2) f_146_14 rfl ?_
    refine r_callv (as := [vr 0, vi (sTr (h 3) (h 4) x1 x2)]) (st' := []) (ls0 := [vr 0, vi (sTr (h 3) (h 4) x1 x2)]) f_146_16 (by decide) rfl rfl (Nat.le_of_ble_eq_true rfl) (Nat.le_of_ble_eq_true rfl) ⟨_, _, rfl, rfl⟩ rfl ?_
    refine c_C_deny  ?_
    show Wp true i_C_write 19 [vr 0, vi x1, vi x2, vj y3, vr 9999, vi (sTr (h 3) (h 4) x1 x2)] [vi (bi (False))] (hs h 0 0 (sTr (h 3) (h 4) x1 x2)) Q
    exact r_retz f_146_19 rfl (bi_01 _) (k5 c1)

theorem g_M_write_0 {Q : PQ} {h : HP} {x1 : Int} {x2 : Int} {y3 : Int} 
    (k1 : ¬ sTr (h 107) (h 107) x1 x2 = 0 → Q (some (vi (bi (((sTr (h 107) (h 107) x1 x2) : Int) = 0)))) (hs h 103 2 (sTr (h 107) (h 107) x1 x2)))
    (o2 : sTr (h 107) (h 107) x1 x2 = 0 → -2147483648 ≤ 60 * x1 ∧ 60 * x1 ≤ 2147483647)
    (o3 : sTr (h 107) (h 107) x1 x2 = 0 → -2147483648 ≤ (60 * x1) + x2 ∧ (60 * x1) + x2 ≤ 2147483647)
    (o4 : sTr (h 107) (h 107) x1 x2 = 0 → 0 ≤ x1 ∧ x1 < 4)
    (o5 : sTr (h 107) (h 107) x1 x2 = 0 → 0 ≤ (60 * x1) + x2 ∧ (60 * x1) + x2 < 240)
    (k6 : sTr (h 107) (h 107) x1 x2 = 0 → Q (some (vi (bi (((sTr (h 107) (h 107) x1 x2) : Int) = 0)))) (hs (hs h 108 ((60 * x1) + x2).toNat (sFit (h 106 x1.toNat) y3)) 103 2 (sTr (h 107) (h 107) x1 x2))) :
    Wp true i_M_write 0 [vr 103, vi x1, vi x2, vj y3, vr 9999, vr 9999] [] h Q := by
  refine r_aload_n (v := 103) f_235_0 rfl (by decide) ?_
  refine r_iload_n (v := x1) f_235_1 rfl ?_
  refine r_iload_n (v := x2) f_235_2 rfl ?_
  refine r_callv (as := [vr 103, vi x1, vi x2]) (st' := []) (ls0 := [vr 103, vi x1, vi x2]) f_235_3 (by decide) rfl rfl (Nat.le_of_ble_eq_true rfl) (Nat.le_of_ble_eq_true rfl) ⟨_, _, rfl, rfl⟩ rfl ?_
  refine c_M_wrongPlace  ?_
  show Wp true i_M_write 6 [vr 103, vi x1, vi x2, vj y3, vr 9999, vr 9999] [vi (sTr (h 107) (h 107) x1 x2)] h Q
  refine r_istore (ls' := [vr 103, vi x1, vi x2, vj y3, vr 9999, vi (sTr (h 107) (h 107) x1 x2)]) f_235_6 (Nat.le_of_ble_eq_true rfl) rfl ?_
  refine r_iload (v := sTr (h 107) (h 107) x1 x2) f_235_8 rfl ?_
  refine r_br (t := 34) f_235_10 rfl cb_ne (fun c1 => ?_) (fun c1 => ?_)
  · refine r_aload_n (v := 103) f_235_34 rfl (by decide) ?_
    refine r_iload (v := sTr (h 107) (h 107) x1 x2) f_235_35 rfl ?_
    refine r_callv (as := [vr 103, vi (sTr (h 107) (h 107) x1 x2)]) (st' := []) (ls0 := [vr 103, vi (sTr (h 107) (h 107) x1 x2)]) f_235_37 (by decide) rfl rfl (Nat.le_of_ble_eq_true rfl) (Nat.le_of_ble_eq_true rfl) ⟨_, _, rfl, rfl⟩ rfl ?_
    refine c_M_is  ?_
    show Wp true i_M_write 40 [vr 103, vi x1, vi x2, vj y3, vr 9999, vi (sTr (h 107) (h 107) x1 x2)] [vi (bi (((sTr (h 107) (h 107) x1 x2) : Int) = 0))] (hs h 103 2 (sTr (h 107) (h 107) x1 x2)) Q
    exact r_retz f_235_40 rfl (bi_01 _) (k1 c1)
  · have c1 := Decidable.not_not.mp c1
    refine r_aload_n (v := 103) f_235_13 rfl (by decide) ?_
    refine r_getr (q := 108) f_235_14 rfl (by decide) (Or.inl rfl) rfl ?_
    refine r_bipush f_235_17 (by decide) ?_
    refine r_iload_n (v := x1) f_235_19 rfl ?_
    refine r_imul (u := 60 * x1) f_235_20 rfl (o2 c1) ?_
    refine r_iload_n (v := x2) f_235_21 rfl ?_
    refine r_iadd (u := (60 * x1) + x2) f_235_22 rfl (o3 c1) ?_
    refine r_lload_n (v := y3) f_235_23 rfl ?_
    refine r_aload_n (v := 103) f_235_24 rfl (by decide) ?_
    refine r_getr (q := 106) f_235_25 rfl (by decide) (Or.inl rfl) rfl ?_
    refine r_iload_n (v := x1) f_235_28 rfl ?_
    refine r_iaload (n := 4) (v := h 106 x1.toNat) f_235_29 ⟨rfl, rfl⟩ (o4 c1) rfl ?_
    refine r_calls (as := [vj y3, vi (h 106 x1.toNat)]) (st' := [vi ((60 * x1) + x2), vr 108]) (ls0 := [vj y3, vr 9999, vi (h 106 x1.toNat)]) f_235_30 (by decide) (by decide) rfl rfl (Nat.le_of_ble_eq_true rfl) (Nat.le_of_ble_eq_true rfl) rfl ?_
    refine c_M_cut  ?_
    show Wp true i_M_write 33 [vr 103, vi x1, vi x2, vj y3, vr 9999, vi (sTr (h 107) (h 107) x1 x2)] [vj (sFit (h 106 x1.toNat) y3), vi ((60 * x1) + x2), vr 108] h Q
    refine r_lastore (n := 240) f_235_33 ⟨rfl, rfl⟩ (o5 c1) ?_
    refine r_aload_n (v := 103) f_235_34 rfl (by decide) ?_
    refine r_iload (v := sTr (h 107) (h 107) x1 x2) f_235_35 rfl ?_
    refine r_callv (as := [vr 103, vi (sTr (h 107) (h 107) x1 x2)]) (st' := []) (ls0 := [vr 103, vi (sTr (h 107) (h 107) x1 x2)]) f_235_37 (by decide) rfl rfl (Nat.le_of_ble_eq_true rfl) (Nat.le_of_ble_eq_true rfl) ⟨_, _, rfl, rfl⟩ rfl ?_
    refine c_M_is  ?_
    show Wp true i_M_write 40 [vr 103, vi x1, vi x2, vj y3, vr 9999, vi (sTr (h 107) (h 107) x1 x2)] [vi (bi (((sTr (h 107) (h 107) x1 x2) : Int) = 0))] (hs (hs h 108 ((60 * x1) + x2).toNat (sFit (h 106 x1.toNat) y3)) 103 2 (sTr (h 107) (h 107) x1 x2)) Q
    exact r_retz f_235_40 rfl (bi_01 _) (k6 c1)

theorem g_Ty_lay_0 {Q : PQ} {h : HP} {x1 : Int} {x2 : Int} {x3 : Int} 
    (o1 : 0 ≤ x1 ∧ x1 < 4)
    (k2 : Wp true i_Ty_lay 17 [vr 1, vi x1, vi x2, vi x3, vi 0] [] (hs (hs h 3 x1.toNat x2) 4 x1.toNat x3) Q) :
    Wp true i_Ty_lay 0 [vr 1, vi x1, vi x2, vi x3, vr 9999] [] h Q := by
  refine r_aload_n (v := 1) f_136_0 rfl (by decide) ?_
  refine r_getr (q := 3) f_136_1 rfl (by decide) (Or.inl rfl) rfl ?_
  refine r_iload_n (v := x1) f_136_4 rfl ?_
  refine r_iload_n (v := x2) f_136_5 rfl ?_
  refine r_iastore (n := 4) f_136_6 ⟨rfl, rfl⟩ o1 ?_
  refine r_aload_n (v := 1) f_136_7 rfl (by decide) ?_
  refine r_getr (q := 4) f_136_8 rfl (by decide) (Or.inl rfl) rfl ?_
  refine r_iload_n (v := x1) f_136_11 rfl ?_
  refine r_iload_n (v := x3) f_136_12 rfl ?_
  refine r_iastore (n := 4) f_136_13 ⟨rfl, rfl⟩ o1 ?_
  refine r_iconst f_136_14 (by decide) ?_
  refine r_istore (ls' := [vr 1, vi x1, vi x2, vi x3, vi 0]) f_136_15 (Nat.le_of_ble_eq_true rfl) rfl ?_
  exact k2

theorem g_Ty_lay_17 {Q : PQ} {h : HP} {x1 : Int} {x2 : Int} {x3 : Int} {x4 : Int} 
    (k1 : 60 ≤ x4 → Q none h)
    (o2 : ¬ 60 ≤ x4 → -2147483648 ≤ x1 * 60 ∧ x1 * 60 ≤ 2147483647)
    (o3 : ¬ 60 ≤ x4 → -2147483648 ≤ (x1 * 60) + x4 ∧ (x1 * 60) + x4 ≤ 2147483647)
    (o4 : ¬ 60 ≤ x4 → 0 ≤ (x1 * 60) + x4 ∧ (x1 * 60) + x4 < 240)
    (o5 : ¬ 60 ≤ x4 → -2147483648 ≤ x4 + 1 ∧ x4 + 1 ≤ 2147483647)
    (k6 : ¬ 60 ≤ x4 → Wp true i_Ty_lay 17 [vr 1, vi x1, vi x2, vi x3, vi (x4 + 1)] [] (hs h 2 ((x1 * 60) + x4).toNat 0) Q) :
    Wp true i_Ty_lay 17 [vr 1, vi x1, vi x2, vi x3, vi x4] [] h Q := by
  refine r_iload (v := x4) f_136_17 rfl ?_
  refine r_bipush f_136_19 (by decide) ?_
  refine r_br2 (t := 43) f_136_21 rfl cb_ge (fun c1 => ?_) (fun c1 => ?_)
  · exact r_retv f_136_43 rfl (k1 c1)
  · refine r_aload_n (v := 1) f_136_24 rfl (by decide) ?_
    refine r_getr (q := 2) f_136_25 rfl (by decide) (Or.inl rfl) rfl ?_
    refine r_iload_n (v := x1) f_136_28 rfl ?_
    refine r_bipush f_136_29 (by decide) ?_
    refine r_imul (u := x1 * 60) f_136_31 rfl (o2 c1) ?_
    refine r_iload (v := x4) f_136_32 rfl ?_
    refine r_iadd (u := (x1 * 60) + x4) f_136_34 rfl (o3 c1) ?_
    refine r_lconst (v := 0) f_136_35 rfl ?_
    refine r_lastore (n := 240) f_136_36 ⟨rfl, rfl⟩ (o4 c1) ?_
    refine r_iinc (v := x4) (w := x4 + 1) (ls' := [vr 1, vi x1, vi x2, vi x3, vi (x4 + 1)]) f_136_37 rfl rfl (o5 c1) rfl ?_
    refine r_goto (t := 17) f_136_40 rfl ?_
    exact (k6 c1)

theorem g_C_tray_0 {Q : PQ} {h : HP} {x1 : Int} {x2 : Int} {x3 : Int} 
    (k1 : ¬ (0 ≤ x1 ∧ x1 ≤ 3) → Q (some (vi (bi (False)))) (hs h 0 0 1))
    (k2 : (0 ≤ x1 ∧ x1 ≤ 3) → ¬ (0 ≤ x2 ∧ x2 ≤ 3) → Q (some (vi (bi (False)))) (hs h 0 0 1))
    (k3 : (0 ≤ x1 ∧ x1 ≤ 3) → (0 ≤ x2 ∧ x2 ≤ 3) → (0 ≤ x3 ∧ x3 ≤ 60) → Wp true i_Ty_lay 0 [vr 1, vi x1, vi x2, vi x3, vr 9999] [] h (fun r h' => Wp true i_C_tray 42 [vr 0, vi x1, vi x2, vi x3] (r.toList ++ []) h' Q))
    (k4 : (0 ≤ x1 ∧ x1 ≤ 3) → (0 ≤ x2 ∧ x2 ≤ 3) → ¬ (0 ≤ x3 ∧ x3 ≤ 60) → Q (some (vi (bi (False)))) (hs h 0 0 1)) :
    Wp true i_C_tray 0 [vr 0, vi x1, vi x2, vi x3] [] h Q := by
  refine r_iload_n (v := x1) f_145_0 rfl ?_
  refine r_calls (as := [vi x1]) (st' := []) (ls0 := [vi x1]) f_145_1 (by decide) (by decide) rfl rfl (Nat.le_of_ble_eq_true rfl) (Nat.le_of_ble_eq_true rfl) rfl ?_
  refine c_C_isTray  ?_
  show Wp true i_C_tray 4 [vr 0, vi x1, vi x2, vi x3] [vi (bi (0 ≤ x1 ∧ x1 ≤ 3))] h Q
  refine r_br (t := 26) f_145_4 rfl cb_bf (fun c1 => ?_) (fun c1 => ?_)
  · refine r_aload_n (v := 0) f_145_26 rfl (by decide) ?_
    refine r_iconst f_145_27 (by decide) ?_
    refine r_callv (as := [vr 0, vi 1]) (st' := []) (ls0 := [vr 0, vi 1]) f_145_28 (by decide) rfl rfl (Nat.le_of_ble_eq_true rfl) (Nat.le_of_ble_eq_true rfl) ⟨_, _, rfl, rfl⟩ rfl ?_
    refine c_C_deny  ?_
    show Wp true i_C_tray 31 [vr 0, vi x1, vi x2, vi x3] [vi (bi (False))] (hs h 0 0 1) Q
    exact r_retz f_145_31 rfl (bi_01 _) (k1 c1)
  · have c1 := Decidable.not_not.mp c1
    refine r_iload_n (v := x2) f_145_7 rfl ?_
    refine r_iconst f_145_8 (by decide) ?_
    refine r_iconst f_145_9 (by decide) ?_
    refine r_calls (as := [vi x2, vi 0, vi 3]) (st' := []) (ls0 := [vi x2, vi 0, vi 3]) f_145_10 (by decide) (by decide) rfl rfl (Nat.le_of_ble_eq_true rfl) (Nat.le_of_ble_eq_true rfl) rfl ?_
    refine c_C_within  ?_
    show Wp true i_C_tray 13 [vr 0, vi x1, vi x2, vi x3] [vi (bi (0 ≤ x2 ∧ x2 ≤ 3))] h Q
    refine r_br (t := 26) f_145_13 rfl cb_bf (fun c2 => ?_) (fun c2 => ?_)
    · refine r_aload_n (v := 0) f_145_26 rfl (by decide) ?_
      refine r_iconst f_145_27 (by decide) ?_
      refine r_callv (as := [vr 0, vi 1]) (st' := []) (ls0 := [vr 0, vi 1]) f_145_28 (by decide) rfl rfl (Nat.le_of_ble_eq_true rfl) (Nat.le_of_ble_eq_true rfl) ⟨_, _, rfl, rfl⟩ rfl ?_
      refine c_C_deny  ?_
      show Wp true i_C_tray 31 [vr 0, vi x1, vi x2, vi x3] [vi (bi (False))] (hs h 0 0 1) Q
      exact r_retz f_145_31 rfl (bi_01 _) (k2 c1 c2)
    · have c2 := Decidable.not_not.mp c2
      refine r_iload_n (v := x3) f_145_16 rfl ?_
      refine r_iconst f_145_17 (by decide) ?_
      refine r_bipush f_145_18 (by decide) ?_
      refine r_calls (as := [vi x3, vi 0, vi 60]) (st' := []) (ls0 := [vi x3, vi 0, vi 60]) f_145_20 (by decide) (by decide) rfl rfl (Nat.le_of_ble_eq_true rfl) (Nat.le_of_ble_eq_true rfl) rfl ?_
      refine c_C_within  ?_
      show Wp true i_C_tray 23 [vr 0, vi x1, vi x2, vi x3] [vi (bi (0 ≤ x3 ∧ x3 ≤ 60))] h Q
      refine r_br (t := 32) f_145_23 rfl cb_bt (fun c3 => ?_) (fun c3 => ?_)
      · refine r_aload_n (v := 0) f_145_32 rfl (by decide) ?_
        refine r_getr (q := 1) f_145_33 rfl (by decide) (Or.inl rfl) rfl ?_
        refine r_iload_n (v := x1) f_145_36 rfl ?_
        refine r_iload_n (v := x2) f_145_37 rfl ?_
        refine r_iload_n (v := x3) f_145_38 rfl ?_
        exact r_callv (as := [vr 1, vi x1, vi x2, vi x3]) (st' := []) (ls0 := [vr 1, vi x1, vi x2, vi x3, vr 9999]) f_145_39 (by decide) rfl rfl (Nat.le_of_ble_eq_true rfl) (Nat.le_of_ble_eq_true rfl) ⟨_, _, rfl, rfl⟩ rfl (k3 c1 c2 c3)
      · refine r_aload_n (v := 0) f_145_26 rfl (by decide) ?_
        refine r_iconst f_145_27 (by decide) ?_
        refine r_callv (as := [vr 0, vi 1]) (st' := []) (ls0 := [vr 0, vi 1]) f_145_28 (by decide) rfl rfl (Nat.le_of_ble_eq_true rfl) (Nat.le_of_ble_eq_true rfl) ⟨_, _, rfl, rfl⟩ rfl ?_
        refine c_C_deny  ?_
        show Wp true i_C_tray 31 [vr 0, vi x1, vi x2, vi x3] [vi (bi (False))] (hs h 0 0 1) Q
        exact r_retz f_145_31 rfl (bi_01 _) (k4 c1 c2 c3)

theorem g_C_tray_42 {Q : PQ} {h : HP} {x1 : Int} {x2 : Int} {x3 : Int} 
    (k1 : Q (some (vi (bi (True)))) (hs h 0 0 0)) :
    Wp true i_C_tray 42 [vr 0, vi x1, vi x2, vi x3] [] h Q := by
  refine r_aload_n (v := 0) f_145_42 rfl (by decide) ?_
  refine r_callv (as := [vr 0]) (st' := []) (ls0 := [vr 0]) f_145_43 (by decide) rfl rfl (Nat.le_of_ble_eq_true rfl) (Nat.le_of_ble_eq_true rfl) ⟨_, _, rfl, rfl⟩ rfl ?_
  refine c_C_grant  ?_
  show Wp true i_C_tray 46 [vr 0, vi x1, vi x2, vi x3] [vi (bi (True))] (hs h 0 0 0) Q
  exact r_retz f_145_46 rfl (bi_01 _) k1

theorem g_M_tray_0 {Q : PQ} {h : HP} {x1 : Int} {x2 : Int} {x3 : Int} 
    (k1 : ¬ (0 ≤ x1 ∧ x1 < 4) → Q (some (vi (bi ((1 : Int) = 0)))) (hs h 103 2 1))
    (k2 : (0 ≤ x1 ∧ x1 < 4) → x2 < 0 → Q (some (vi (bi ((1 : Int) = 0)))) (hs h 103 2 1))
    (k3 : (0 ≤ x1 ∧ x1 < 4) → ¬ x2 < 0 → 3 < x2 → Q (some (vi (bi ((1 : Int) = 0)))) (hs h 103 2 1))
    (k4 : (0 ≤ x1 ∧ x1 < 4) → ¬ x2 < 0 → ¬ 3 < x2 → x3 < 0 → Q (some (vi (bi ((1 : Int) = 0)))) (hs h 103 2 1))
    (o5 : (0 ≤ x1 ∧ x1 < 4) → ¬ x2 < 0 → ¬ 3 < x2 → ¬ x3 < 0 → x3 ≤ 60 → 0 ≤ x1 ∧ x1 < 4)
    (k6 : (0 ≤ x1 ∧ x1 < 4) → ¬ x2 < 0 → ¬ 3 < x2 → ¬ x3 < 0 → x3 ≤ 60 → Wp true i_M_tray 49 [vr 103, vi x1, vi x2, vi x3, vi 0] [] (hs (hs h 106 x1.toNat x2) 107 x1.toNat x3) Q)
    (k7 : (0 ≤ x1 ∧ x1 < 4) → ¬ x2 < 0 → ¬ 3 < x2 → ¬ x3 < 0 → ¬ x3 ≤ 60 → Q (some (vi (bi ((1 : Int) = 0)))) (hs h 103 2 1)) :
    Wp true i_M_tray 0 [vr 103, vi x1, vi x2, vi x3, vr 9999] [] h Q := by
  refine r_iload_n (v := x1) f_233_0 rfl ?_
  refine r_calls (as := [vi x1]) (st' := []) (ls0 := [vi x1]) f_233_1 (by decide) (by decide) rfl rfl (Nat.le_of_ble_eq_true rfl) (Nat.le_of_ble_eq_true rfl) rfl ?_
  refine c_M_isTray  ?_
  show Wp true i_M_tray 4 [vr 103, vi x1, vi x2, vi x3, vr 9999] [vi (bi (0 ≤ x1 ∧ x1 < 4))] h Q
  refine r_br (t := 26) f_233_4 rfl cb_bf (fun c1 => ?_) (fun c1 => ?_)
  · refine r_aload_n (v := 103) f_233_26 rfl (by decide) ?_
    refine r_iconst f_233_27 (by decide) ?_
    refine r_callv (as := [vr 103, vi 1]) (st' := []) (ls0 := [vr 103, vi 1]) f_233_28 (by decide) rfl rfl (Nat.le_of_ble_eq_true rfl) (Nat.le_of_ble_eq_true rfl) ⟨_, _, rfl, rfl⟩ rfl ?_
    refine c_M_is  ?_
    show Wp true i_M_tray 31 [vr 103, vi x1, vi x2, vi x3, vr 9999] [vi (bi ((1 : Int) = 0))] (hs h 103 2 1) Q
    exact r_retz f_233_31 rfl (bi_01 _) (k1 c1)
  · have c1 := Decidable.not_not.mp c1
    refine r_iload_n (v := x2) f_233_7 rfl ?_
    refine r_br (t := 26) f_233_8 rfl cb_lt (fun c2 => ?_) (fun c2 => ?_)
    · refine r_aload_n (v := 103) f_233_26 rfl (by decide) ?_
      refine r_iconst f_233_27 (by decide) ?_
      refine r_callv (as := [vr 103, vi 1]) (st' := []) (ls0 := [vr 103, vi 1]) f_233_28 (by decide) rfl rfl (Nat.le_of_ble_eq_true rfl) (Nat.le_of_ble_eq_true rfl) ⟨_, _, rfl, rfl⟩ rfl ?_
      refine c_M_is  ?_
      show Wp true i_M_tray 31 [vr 103, vi x1, vi x2, vi x3, vr 9999] [vi (bi ((1 : Int) = 0))] (hs h 103 2 1) Q
      exact r_retz f_233_31 rfl (bi_01 _) (k2 c1 c2)
    · refine r_iload_n (v := x2) f_233_11 rfl ?_
      refine r_iconst f_233_12 (by decide) ?_
      refine r_br2 (t := 26) f_233_13 rfl cb_gt (fun c3 => ?_) (fun c3 => ?_)
      · refine r_aload_n (v := 103) f_233_26 rfl (by decide) ?_
        refine r_iconst f_233_27 (by decide) ?_
        refine r_callv (as := [vr 103, vi 1]) (st' := []) (ls0 := [vr 103, vi 1]) f_233_28 (by decide) rfl rfl (Nat.le_of_ble_eq_true rfl) (Nat.le_of_ble_eq_true rfl) ⟨_, _, rfl, rfl⟩ rfl ?_
        refine c_M_is  ?_
        show Wp true i_M_tray 31 [vr 103, vi x1, vi x2, vi x3, vr 9999] [vi (bi ((1 : Int) = 0))] (hs h 103 2 1) Q
        exact r_retz f_233_31 rfl (bi_01 _) (k3 c1 c2 c3)
      · refine r_iload_n (v := x3) f_233_16 rfl ?_
        refine r_br (t := 26) f_233_17 rfl cb_lt (fun c4 => ?_) (fun c4 => ?_)
        · refine r_aload_n (v := 103) f_233_26 rfl (by decide) ?_
          refine r_iconst f_233_27 (by decide) ?_
          refine r_callv (as := [vr 103, vi 1]) (st' := []) (ls0 := [vr 103, vi 1]) f_233_28 (by decide) rfl rfl (Nat.le_of_ble_eq_true rfl) (Nat.le_of_ble_eq_true rfl) ⟨_, _, rfl, rfl⟩ rfl ?_
          refine c_M_is  ?_
          show Wp true i_M_tray 31 [vr 103, vi x1, vi x2, vi x3, vr 9999] [vi (bi ((1 : Int) = 0))] (hs h 103 2 1) Q
          exact r_retz f_233_31 rfl (bi_01 _) (k4 c1 c2 c3 c4)
        · refine r_iload_n (v := x3) f_233_20 rfl ?_
          refine r_bipush f_233_21 (by decide) ?_
          refine r_br2 (t := 32) f_233_23 rfl cb_le (fun c5 => ?_) (fun c5 => ?_)
          · refine r_aload_n (v := 103) f_233_32 rfl (by decide) ?_
            refine r_getr (q := 106) f_233_33 rfl (by decide) (Or.inl rfl) rfl ?_
            refine r_iload_n (v := x1) f_233_36 rfl ?_
            refine r_iload_n (v := x2) f_233_37 rfl ?_
            refine r_iastore (n := 4) f_233_38 ⟨rfl, rfl⟩ (o5 c1 c2 c3 c4 c5) ?_
            refine r_aload_n (v := 103) f_233_39 rfl (by decide) ?_
            refine r_getr (q := 107) f_233_40 rfl (by decide) (Or.inl rfl) rfl ?_
            refine r_iload_n (v := x1) f_233_43 rfl ?_
            refine r_iload_n (v := x3) f_233_44 rfl ?_
            refine r_iastore (n := 4) f_233_45 ⟨rfl, rfl⟩ (o5 c1 c2 c3 c4 c5) ?_
            refine r_iconst f_233_46 (by decide) ?_
            refine r_istore (ls' := [vr 103, vi x1, vi x2, vi x3, vi 0]) f_233_47 (Nat.le_of_ble_eq_true rfl) rfl ?_
            exact (k6 c1 c2 c3 c4 c5)
          · refine r_aload_n (v := 103) f_233_26 rfl (by decide) ?_
            refine r_iconst f_233_27 (by decide) ?_
            refine r_callv (as := [vr 103, vi 1]) (st' := []) (ls0 := [vr 103, vi 1]) f_233_28 (by decide) rfl rfl (Nat.le_of_ble_eq_true rfl) (Nat.le_of_ble_eq_true rfl) ⟨_, _, rfl, rfl⟩ rfl ?_
            refine c_M_is  ?_
            show Wp true i_M_tray 31 [vr 103, vi x1, vi x2, vi x3, vr 9999] [vi (bi ((1 : Int) = 0))] (hs h 103 2 1) Q
            exact r_retz f_233_31 rfl (bi_01 _) (k7 c1 c2 c3 c4 c5)

theorem g_M_tray_49 {Q : PQ} {h : HP} {x1 : Int} {x2 : Int} {x3 : Int} {x4 : Int} 
    (k1 : x3 ≤ x4 → Q (some (vi (bi ((0 : Int) = 0)))) (hs h 103 2 0))
    (o2 : ¬ x3 ≤ x4 → -2147483648 ≤ 60 * x1 ∧ 60 * x1 ≤ 2147483647)
    (o3 : ¬ x3 ≤ x4 → -2147483648 ≤ (60 * x1) + x4 ∧ (60 * x1) + x4 ≤ 2147483647)
    (o4 : ¬ x3 ≤ x4 → 0 ≤ (60 * x1) + x4 ∧ (60 * x1) + x4 < 240)
    (o5 : ¬ x3 ≤ x4 → -2147483648 ≤ x4 + 1 ∧ x4 + 1 ≤ 2147483647)
    (k6 : ¬ x3 ≤ x4 → Wp true i_M_tray 49 [vr 103, vi x1, vi x2, vi x3, vi (x4 + 1)] [] (hs h 108 ((60 * x1) + x4).toNat 0) Q) :
    Wp true i_M_tray 49 [vr 103, vi x1, vi x2, vi x3, vi x4] [] h Q := by
  refine r_iload (v := x4) f_233_49 rfl ?_
  refine r_iload_n (v := x3) f_233_51 rfl ?_
  refine r_br2 (t := 74) f_233_52 rfl cb_ge (fun c1 => ?_) (fun c1 => ?_)
  · refine r_aload_n (v := 103) f_233_74 rfl (by decide) ?_
    refine r_iconst f_233_75 (by decide) ?_
    refine r_callv (as := [vr 103, vi 0]) (st' := []) (ls0 := [vr 103, vi 0]) f_233_76 (by decide) rfl rfl (Nat.le_of_ble_eq_true rfl) (Nat.le_of_ble_eq_true rfl) ⟨_, _, rfl, rfl⟩ rfl ?_
    refine c_M_is  ?_
    show Wp true i_M_tray 79 [vr 103, vi x1, vi x2, vi x3, vi x4] [vi (bi ((0 : Int) = 0))] (hs h 103 2 0) Q
    exact r_retz f_233_79 rfl (bi_01 _) (k1 c1)
  · refine r_aload_n (v := 103) f_233_55 rfl (by decide) ?_
    refine r_getr (q := 108) f_233_56 rfl (by decide) (Or.inl rfl) rfl ?_
    refine r_bipush f_233_59 (by decide) ?_
    refine r_iload_n (v := x1) f_233_61 rfl ?_
    refine r_imul (u := 60 * x1) f_233_62 rfl (o2 c1) ?_
    refine r_iload (v := x4) f_233_63 rfl ?_
    refine r_iadd (u := (60 * x1) + x4) f_233_65 rfl (o3 c1) ?_
    refine r_lconst (v := 0) f_233_66 rfl ?_
    refine r_lastore (n := 240) f_233_67 ⟨rfl, rfl⟩ (o4 c1) ?_
    refine r_iinc (v := x4) (w := x4 + 1) (ls' := [vr 103, vi x1, vi x2, vi x3, vi (x4 + 1)]) f_233_68 rfl rfl (o5 c1) rfl ?_
    refine r_goto (t := 49) f_233_71 rfl ?_
    exact (k6 c1)

theorem g_Ty_carry_0 {Q : PQ} {h : HP} {x1 : Int} {x2 : Int} {x3 : Int} {x4 : Int} {x5 : Int} 
    (o1 : -2147483648 ≤ x1 * 60 ∧ x1 * 60 ≤ 2147483647)
    (o2 : -2147483648 ≤ (x1 * 60) + x2 ∧ (x1 * 60) + x2 ≤ 2147483647)
    (o3 : -2147483648 ≤ x3 * 60 ∧ x3 * 60 ≤ 2147483647)
    (o4 : -2147483648 ≤ (x3 * 60) + x4 ∧ (x3 * 60) + x4 ≤ 2147483647)
    (o5 : 0 ≤ x5 ∧ 0 ≤ (x1 * 60) + x2 ∧ 0 ≤ (x3 * 60) + x4 ∧ ((x1 * 60) + x2) + x5 ≤ 240 ∧ ((x3 * 60) + x4) + x5 ≤ 240)
    (k6 : Q none (cpy h 2 ((x1 * 60) + x2).toNat 2 ((x3 * 60) + x4).toNat x5.toNat)) :
    Wp true i_Ty_carry 0 [vr 1, vi x1, vi x2, vi x3, vi x4, vi x5] [] h Q := by
  refine r_aload_n (v := 1) f_139_0 rfl (by decide) ?_
  refine r_getr (q := 2) f_139_1 rfl (by decide) (Or.inl rfl) rfl ?_
  refine r_iload_n (v := x1) f_139_4 rfl ?_
  refine r_bipush f_139_5 (by decide) ?_
  refine r_imul (u := x1 * 60) f_139_7 rfl o1 ?_
  refine r_iload_n (v := x2) f_139_8 rfl ?_
  refine r_iadd (u := (x1 * 60) + x2) f_139_9 rfl o2 ?_
  refine r_aload_n (v := 1) f_139_10 rfl (by decide) ?_
  refine r_getr (q := 2) f_139_11 rfl (by decide) (Or.inl rfl) rfl ?_
  refine r_iload_n (v := x3) f_139_14 rfl ?_
  refine r_bipush f_139_15 (by decide) ?_
  refine r_imul (u := x3 * 60) f_139_17 rfl o3 ?_
  refine r_iload (v := x4) f_139_18 rfl ?_
  refine r_iadd (u := (x3 * 60) + x4) f_139_20 rfl o4 ?_
  refine r_iload (v := x5) f_139_21 rfl ?_
  refine r_copy (na := 240) (nb := 240) f_139_23 ⟨rfl, by rw [show zck 2 = 21 from rfl]; decide⟩ ⟨rfl, rfl⟩ o5 (by decide) ?_
  exact r_retv f_139_26 rfl k6

theorem g_C_pour_0 {Q : PQ} {h : HP} {x1 : Int} {x2 : Int} {x3 : Int} {x4 : Int} {x5 : Int} 
    (k1 : ¬ (0 ≤ x1 ∧ x1 ≤ 3) → Q (some (vi (bi (False)))) (hs h 0 0 1))
    (k2 : (0 ≤ x1 ∧ x1 ≤ 3) → ¬ (0 ≤ x3 ∧ x3 ≤ 3) → Q (some (vi (bi (False)))) (hs h 0 0 1))
    (k3 : (0 ≤ x1 ∧ x1 ≤ 3) → (0 ≤ x3 ∧ x3 ≤ 3) → x2 < 0 → Q (some (vi (bi (False)))) (hs h 0 0 1))
    (k4 : (0 ≤ x1 ∧ x1 ≤ 3) → (0 ≤ x3 ∧ x3 ≤ 3) → ¬ x2 < 0 → x4 < 0 → Q (some (vi (bi (False)))) (hs h 0 0 1))
    (o5 : (0 ≤ x1 ∧ x1 ≤ 3) → (0 ≤ x3 ∧ x3 ≤ 3) → ¬ x2 < 0 → ¬ x4 < 0 → 0 ≤ x5 → 0 ≤ x1 ∧ x1 < 4)
    (k6 : (0 ≤ x1 ∧ x1 ≤ 3) → (0 ≤ x3 ∧ x3 ≤ 3) → ¬ x2 < 0 → ¬ x4 < 0 → 0 ≤ x5 → (h 3 x1.toNat = -1) → Q (some (vi (bi (False)))) (hs h 0 0 2))
    (o7 : (0 ≤ x1 ∧ x1 ≤ 3) → (0 ≤ x3 ∧ x3 ≤ 3) → ¬ x2 < 0 → ¬ x4 < 0 → 0 ≤ x5 → ¬ (h 3 x1.toNat = -1) → 0 ≤ x3 ∧ x3 < 4)
    (o8 : (0 ≤ x1 ∧ x1 ≤ 3) → (0 ≤ x3 ∧ x3 ≤ 3) → ¬ x2 < 0 → ¬ x4 < 0 → 0 ≤ x5 → ¬ (h 3 x1.toNat = -1) → ¬ (h 3 x3.toNat = -1) → (h 3 x1.toNat = h 3 x3.toNat) → -2147483648 ≤ x2 ∧ x2 ≤ 2147483647)
    (o9 : (0 ≤ x1 ∧ x1 ≤ 3) → (0 ≤ x3 ∧ x3 ≤ 3) → ¬ x2 < 0 → ¬ x4 < 0 → 0 ≤ x5 → ¬ (h 3 x1.toNat = -1) → ¬ (h 3 x3.toNat = -1) → (h 3 x1.toNat = h 3 x3.toNat) → -2147483648 ≤ x5 ∧ x5 ≤ 2147483647)
    (k10 : (0 ≤ x1 ∧ x1 ≤ 3) → (0 ≤ x3 ∧ x3 ≤ 3) → ¬ x2 < 0 → ¬ x4 < 0 → 0 ≤ x5 → ¬ (h 3 x1.toNat = -1) → ¬ (h 3 x3.toNat = -1) → (h 3 x1.toNat = h 3 x3.toNat) → ¬ (x2 + x5 ≤ h 4 x1.toNat) → Q (some (vi (bi (False)))) (hs h 0 0 3))
    (o11 : (0 ≤ x1 ∧ x1 ≤ 3) → (0 ≤ x3 ∧ x3 ≤ 3) → ¬ x2 < 0 → ¬ x4 < 0 → 0 ≤ x5 → ¬ (h 3 x1.toNat = -1) → ¬ (h 3 x3.toNat = -1) → (h 3 x1.toNat = h 3 x3.toNat) → (x2 + x5 ≤ h 4 x1.toNat) → -2147483648 ≤ x4 ∧ x4 ≤ 2147483647)
    (k12 : (0 ≤ x1 ∧ x1 ≤ 3) → (0 ≤ x3 ∧ x3 ≤ 3) → ¬ x2 < 0 → ¬ x4 < 0 → 0 ≤ x5 → ¬ (h 3 x1.toNat = -1) → ¬ (h 3 x3.toNat = -1) → (h 3 x1.toNat = h 3 x3.toNat) → (x2 + x5 ≤ h 4 x1.toNat) → (x4 + x5 ≤ h 4 x3.toNat) → Wp true i_Ty_carry 0 [vr 1, vi x1, vi x2, vi x3, vi x4, vi x5] [] h (fun r h' => Wp true i_C_pour 130 [vr 0, vi x1, vi x2, vi x3, vi x4, vi x5] (r.toList ++ []) h' Q))
    (k13 : (0 ≤ x1 ∧ x1 ≤ 3) → (0 ≤ x3 ∧ x3 ≤ 3) → ¬ x2 < 0 → ¬ x4 < 0 → 0 ≤ x5 → ¬ (h 3 x1.toNat = -1) → ¬ (h 3 x3.toNat = -1) → (h 3 x1.toNat = h 3 x3.toNat) → (x2 + x5 ≤ h 4 x1.toNat) → ¬ (x4 + x5 ≤ h 4 x3.toNat) → Q (some (vi (bi (False)))) (hs h 0 0 3))
    (k14 : (0 ≤ x1 ∧ x1 ≤ 3) → (0 ≤ x3 ∧ x3 ≤ 3) → ¬ x2 < 0 → ¬ x4 < 0 → 0 ≤ x5 → ¬ (h 3 x1.toNat = -1) → ¬ (h 3 x3.toNat = -1) → ¬ (h 3 x1.toNat = h 3 x3.toNat) → Q (some (vi (bi (False)))) (hs h 0 0 8))
    (k15 : (0 ≤ x1 ∧ x1 ≤ 3) → (0 ≤ x3 ∧ x3 ≤ 3) → ¬ x2 < 0 → ¬ x4 < 0 → 0 ≤ x5 → ¬ (h 3 x1.toNat = -1) → (h 3 x3.toNat = -1) → Q (some (vi (bi (False)))) (hs h 0 0 2))
    (k16 : (0 ≤ x1 ∧ x1 ≤ 3) → (0 ≤ x3 ∧ x3 ≤ 3) → ¬ x2 < 0 → ¬ x4 < 0 → ¬ 0 ≤ x5 → Q (some (vi (bi (False)))) (hs h 0 0 1)) :
    Wp true i_C_pour 0 [vr 0, vi x1, vi x2, vi x3, vi x4, vi x5] [] h Q := by
  refine r_iload_n (v := x1) f_148_0 rfl ?_
  refine r_calls (as := [vi x1]) (st' := []) (ls0 := [vi x1]) f_148_1 (by decide) (by decide) rfl rfl (Nat.le_of_ble_eq_true rfl) (Nat.le_of_ble_eq_true rfl) rfl ?_
  refine c_C_isTray  ?_
  show Wp true i_C_pour 4 [vr 0, vi x1, vi x2, vi x3, vi x4, vi x5] [vi (bi (0 ≤ x1 ∧ x1 ≤ 3))] h Q
  refine r_br (t := 28) f_148_4 rfl cb_bf (fun c1 => ?_) (fun c1 => ?_)
  · refine r_aload_n (v := 0) f_148_28 rfl (by decide) ?_
    refine r_iconst f_148_29 (by decide) ?_
    refine r_callv (as := [vr 0, vi 1]) (st' := []) (ls0 := [vr 0, vi 1]) f_148_30 (by decide) rfl rfl (Nat.le_of_ble_eq_true rfl) (Nat.le_of_ble_eq_true rfl) ⟨_, _, rfl, rfl⟩ rfl ?_
    refine c_C_deny  ?_
    show Wp true i_C_pour 33 [vr 0, vi x1, vi x2, vi x3, vi x4, vi x5] [vi (bi (False))] (hs h 0 0 1) Q
    exact r_retz f_148_33 rfl (bi_01 _) (k1 c1)
  · have c1 := Decidable.not_not.mp c1
    refine r_iload_n (v := x3) f_148_7 rfl ?_
    refine r_calls (as := [vi x3]) (st' := []) (ls0 := [vi x3]) f_148_8 (by decide) (by decide) rfl rfl (Nat.le_of_ble_eq_true rfl) (Nat.le_of_ble_eq_true rfl) rfl ?_
    refine c_C_isTray  ?_
    show Wp true i_C_pour 11 [vr 0, vi x1, vi x2, vi x3, vi x4, vi x5] [vi (bi (0 ≤ x3 ∧ x3 ≤ 3))] h Q
    refine r_br (t := 28) f_148_11 rfl cb_bf (fun c2 => ?_) (fun c2 => ?_)
    · refine r_aload_n (v := 0) f_148_28 rfl (by decide) ?_
      refine r_iconst f_148_29 (by decide) ?_
      refine r_callv (as := [vr 0, vi 1]) (st' := []) (ls0 := [vr 0, vi 1]) f_148_30 (by decide) rfl rfl (Nat.le_of_ble_eq_true rfl) (Nat.le_of_ble_eq_true rfl) ⟨_, _, rfl, rfl⟩ rfl ?_
      refine c_C_deny  ?_
      show Wp true i_C_pour 33 [vr 0, vi x1, vi x2, vi x3, vi x4, vi x5] [vi (bi (False))] (hs h 0 0 1) Q
      exact r_retz f_148_33 rfl (bi_01 _) (k2 c1 c2)
    · have c2 := Decidable.not_not.mp c2
      refine r_iload_n (v := x2) f_148_14 rfl ?_
      refine r_br (t := 28) f_148_15 rfl cb_lt (fun c3 => ?_) (fun c3 => ?_)
      · refine r_aload_n (v := 0) f_148_28 rfl (by decide) ?_
        refine r_iconst f_148_29 (by decide) ?_
        refine r_callv (as := [vr 0, vi 1]) (st' := []) (ls0 := [vr 0, vi 1]) f_148_30 (by decide) rfl rfl (Nat.le_of_ble_eq_true rfl) (Nat.le_of_ble_eq_true rfl) ⟨_, _, rfl, rfl⟩ rfl ?_
        refine c_C_deny  ?_
        show Wp true i_C_pour 33 [vr 0, vi x1, vi x2, vi x3, vi x4, vi x5] [vi (bi (False))] (hs h 0 0 1) Q
        exact r_retz f_148_33 rfl (bi_01 _) (k3 c1 c2 c3)
      · refine r_iload (v := x4) f_148_18 rfl ?_
        refine r_br (t := 28) f_148_20 rfl cb_lt (fun c4 => ?_) (fun c4 => ?_)
        · refine r_aload_n (v := 0) f_148_28 rfl (by decide) ?_
          refine r_iconst f_148_29 (by decide) ?_
          refine r_callv (as := [vr 0, vi 1]) (st' := []) (ls0 := [vr 0, vi 1]) f_148_30 (by decide) rfl rfl (Nat.le_of_ble_eq_true rfl) (Nat.le_of_ble_eq_true rfl) ⟨_, _, rfl, rfl⟩ rfl ?_
          refine c_C_deny  ?_
          show Wp true i_C_pour 33 [vr 0, vi x1, vi x2, vi x3, vi x4, vi x5] [vi (bi (False))] (hs h 0 0 1) Q
          exact r_retz f_148_33 rfl (bi_01 _) (k4 c1 c2 c3 c4)
        · refine r_iload (v := x5) f_148_23 rfl ?_
          refine r_br (t := 34) f_148_25 rfl cb_ge (fun c5 => ?_) (fun c5 => ?_)
          · refine r_aload_n (v := 0) f_148_34 rfl (by decide) ?_
            refine r_getr (q := 1) f_148_35 rfl (by decide) (Or.inl rfl) rfl ?_
            refine r_iload_n (v := x1) f_148_38 rfl ?_
            refine r_callv (as := [vr 1, vi x1]) (st' := []) (ls0 := [vr 1, vi x1]) f_148_39 (by decide) rfl rfl (Nat.le_of_ble_eq_true rfl) (Nat.le_of_ble_eq_true rfl) ⟨_, _, rfl, rfl⟩ rfl ?_
            refine c_Ty_isMissing (o5 c1 c2 c3 c4 c5) ?_
            show Wp true i_C_pour 42 [vr 0, vi x1, vi x2, vi x3, vi x4, vi x5] [vi (bi (h 3 x1.toNat = -1))] h Q
            refine r_br (t := 56) f_148_42 rfl cb_bt (fun c6 => ?_) (fun c6 => ?_)
            · refine r_aload_n (v := 0) f_148_56 rfl (by decide) ?_
              refine r_iconst f_148_57 (by decide) ?_
              refine r_callv (as := [vr 0, vi 2]) (st' := []) (ls0 := [vr 0, vi 2]) f_148_58 (by decide) rfl rfl (Nat.le_of_ble_eq_true rfl) (Nat.le_of_ble_eq_true rfl) ⟨_, _, rfl, rfl⟩ rfl ?_
              refine c_C_deny  ?_
              show Wp true i_C_pour 61 [vr 0, vi x1, vi x2, vi x3, vi x4, vi x5] [vi (bi (False))] (hs h 0 0 2) Q
              exact r_retz f_148_61 rfl (bi_01 _) (k6 c1 c2 c3 c4 c5 c6)
            · refine r_aload_n (v := 0) f_148_45 rfl (by decide) ?_
              refine r_getr (q := 1) f_148_46 rfl (by decide) (Or.inl rfl) rfl ?_
              refine r_iload_n (v := x3) f_148_49 rfl ?_
              refine r_callv (as := [vr 1, vi x3]) (st' := []) (ls0 := [vr 1, vi x3]) f_148_50 (by decide) rfl rfl (Nat.le_of_ble_eq_true rfl) (Nat.le_of_ble_eq_true rfl) ⟨_, _, rfl, rfl⟩ rfl ?_
              refine c_Ty_isMissing (o7 c1 c2 c3 c4 c5 c6) ?_
              show Wp true i_C_pour 53 [vr 0, vi x1, vi x2, vi x3, vi x4, vi x5] [vi (bi (h 3 x3.toNat = -1))] h Q
              refine r_br (t := 62) f_148_53 rfl cb_bf (fun c7 => ?_) (fun c7 => ?_)
              · refine r_aload_n (v := 0) f_148_62 rfl (by decide) ?_
                refine r_getr (q := 1) f_148_63 rfl (by decide) (Or.inl rfl) rfl ?_
                refine r_iload_n (v := x1) f_148_66 rfl ?_
                refine r_iload_n (v := x3) f_148_67 rfl ?_
                refine r_callv (as := [vr 1, vi x1, vi x3]) (st' := []) (ls0 := [vr 1, vi x1, vi x3]) f_148_68 (by decide) rfl rfl (Nat.le_of_ble_eq_true rfl) (Nat.le_of_ble_eq_true rfl) ⟨_, _, rfl, rfl⟩ rfl ?_
                refine c_Ty_alike (o5 c1 c2 c3 c4 c5) (o7 c1 c2 c3 c4 c5 c6) ?_
                show Wp true i_C_pour 71 [vr 0, vi x1, vi x2, vi x3, vi x4, vi x5] [vi (bi (h 3 x1.toNat = h 3 x3.toNat))] h Q
                refine r_br (t := 81) f_148_71 rfl cb_bt (fun c8 => ?_) (fun c8 => ?_)
                · refine r_aload_n (v := 0) f_148_81 rfl (by decide) ?_
                  refine r_getr (q := 1) f_148_82 rfl (by decide) (Or.inl rfl) rfl ?_
                  refine r_iload_n (v := x1) f_148_85 rfl ?_
                  refine r_iload_n (v := x2) f_148_86 rfl ?_
                  refine r_iload (v := x5) f_148_87 rfl ?_
                  refine r_callv (as := [vr 1, vi x1, vi x2, vi x5]) (st' := []) (ls0 := [vr 1, vi x1, vi x2, vi x5]) f_148_89 (by decide) rfl rfl (Nat.le_of_ble_eq_true rfl) (Nat.le_of_ble_eq_true rfl) ⟨_, _, rfl, rfl⟩ rfl ?_
                  refine c_Ty_hasRun (o5 c1 c2 c3 c4 c5) (o8 c1 c2 c3 c4 c5 c6 c7 c8) (o9 c1 c2 c3 c4 c5 c6 c7 c8) ?_
                  show Wp true i_C_pour 92 [vr 0, vi x1, vi x2, vi x3, vi x4, vi x5] [vi (bi (x2 + x5 ≤ h 4 x1.toNat))] h Q
                  refine r_br (t := 110) f_148_92 rfl cb_bf (fun c9 => ?_) (fun c9 => ?_)
                  · refine r_aload_n (v := 0) f_148_110 rfl (by decide) ?_
                    refine r_iconst f_148_111 (by decide) ?_
                    refine r_callv (as := [vr 0, vi 3]) (st' := []) (ls0 := [vr 0, vi 3]) f_148_112 (by decide) rfl rfl (Nat.le_of_ble_eq_true rfl) (Nat.le_of_ble_eq_true rfl) ⟨_, _, rfl, rfl⟩ rfl ?_
                    refine c_C_deny  ?_
                    show Wp true i_C_pour 115 [vr 0, vi x1, vi x2, vi x3, vi x4, vi x5] [vi (bi (False))] (hs h 0 0 3) Q
                    exact r_retz f_148_115 rfl (bi_01 _) (k10 c1 c2 c3 c4 c5 c6 c7 c8 c9)
                  · have c9 := Decidable.not_not.mp c9
                    refine r_aload_n (v := 0) f_148_95 rfl (by decide) ?_
                    refine r_getr (q := 1) f_148_96 rfl (by decide) (Or.inl rfl) rfl ?_
                    refine r_iload_n (v := x3) f_148_99 rfl ?_
                    refine r_iload (v := x4) f_148_100 rfl ?_
                    refine r_iload (v := x5) f_148_102 rfl ?_
                    refine r_callv (as := [vr 1, vi x3, vi x4, vi x5]) (st' := []) (ls0 := [vr 1, vi x3, vi x4, vi x5]) f_148_104 (by decide) rfl rfl (Nat.le_of_ble_eq_true rfl) (Nat.le_of_ble_eq_true rfl) ⟨_, _, rfl, rfl⟩ rfl ?_
                    refine c_Ty_hasRun (o7 c1 c2 c3 c4 c5 c6) (o11 c1 c2 c3 c4 c5 c6 c7 c8 c9) (o9 c1 c2 c3 c4 c5 c6 c7 c8) ?_
                    show Wp true i_C_pour 107 [vr 0, vi x1, vi x2, vi x3, vi x4, vi x5] [vi (bi (x4 + x5 ≤ h 4 x3.toNat))] h Q
                    refine r_br (t := 116) f_148_107 rfl cb_bt (fun c10 => ?_) (fun c10 => ?_)
                    · refine r_aload_n (v := 0) f_148_116 rfl (by decide) ?_
                      refine r_getr (q := 1) f_148_117 rfl (by decide) (Or.inl rfl) rfl ?_
                      refine r_iload_n (v := x1) f_148_120 rfl ?_
                      refine r_iload_n (v := x2) f_148_121 rfl ?_
                      refine r_iload_n (v := x3) f_148_122 rfl ?_
                      refine r_iload (v := x4) f_148_123 rfl ?_
                      refine r_iload (v := x5) f_148_125 rfl ?_
                      exact r_callv (as := [vr 1, vi x1, vi x2, vi x3, vi x4, vi x5]) (st' := []) (ls0 := [vr 1, vi x1, vi x2, vi x3, vi x4, vi x5]) f_148_127 (by decide) rfl rfl (Nat.le_of_ble_eq_true rfl) (Nat.le_of_ble_eq_true rfl) ⟨_, _, rfl, rfl⟩ rfl (k12 c1 c2 c3 c4 c5 c6 c7 c8 c9 c10)
                    · refine r_aload_n (v := 0) f_148_110 rfl (by decide) ?_
                      refine r_iconst f_148_111 (by decide) ?_
                      refine r_callv (as := [vr 0, vi 3]) (st' := []) (ls0 := [vr 0, vi 3]) f_148_112 (by decide) rfl rfl (Nat.le_of_ble_eq_true rfl) (Nat.le_of_ble_eq_true rfl) ⟨_, _, rfl, rfl⟩ rfl ?_
                      refine c_C_deny  ?_
                      show Wp true i_C_pour 115 [vr 0, vi x1, vi x2, vi x3, vi x4, vi x5] [vi (bi (False))] (hs h 0 0 3) Q
                      exact r_retz f_148_115 rfl (bi_01 _) (k13 c1 c2 c3 c4 c5 c6 c7 c8 c9 c10)
                · refine r_aload_n (v := 0) f_148_74 rfl (by decide) ?_
                  refine r_bipush f_148_75 (by decide) ?_
                  refine r_callv (as := [vr 0, vi 8]) (st' := []) (ls0 := [vr 0, vi 8]) f_148_77 (by decide) rfl rfl (Nat.le_of_ble_eq_true rfl) (Nat.le_of_ble_eq_true rfl) ⟨_, _, rfl, rfl⟩ rfl ?_
                  refine c_C_deny  ?_
                  show Wp true i_C_pour 80 [vr 0, vi x1, vi x2, vi x3, vi x4, vi x5] [vi (bi (False))] (hs h 0 0 8) Q
                  exact r_retz f_148_80 rfl (bi_01 _) (k14 c1 c2 c3 c4 c5 c6 c7 c8)
              · have c7 := Decidable.not_not.mp c7
                refine r_aload_n (v := 0) f_148_56 rfl (by decide) ?_
                refine r_iconst f_148_57 (by decide) ?_
                refine r_callv (as := [vr 0, vi 2]) (st' := []) (ls0 := [vr 0, vi 2]) f_148_58 (by decide) rfl rfl (Nat.le_of_ble_eq_true rfl) (Nat.le_of_ble_eq_true rfl) ⟨_, _, rfl, rfl⟩ rfl ?_
                refine c_C_deny  ?_
                show Wp true i_C_pour 61 [vr 0, vi x1, vi x2, vi x3, vi x4, vi x5] [vi (bi (False))] (hs h 0 0 2) Q
                exact r_retz f_148_61 rfl (bi_01 _) (k15 c1 c2 c3 c4 c5 c6 c7)
          · refine r_aload_n (v := 0) f_148_28 rfl (by decide) ?_
            refine r_iconst f_148_29 (by decide) ?_
            refine r_callv (as := [vr 0, vi 1]) (st' := []) (ls0 := [vr 0, vi 1]) f_148_30 (by decide) rfl rfl (Nat.le_of_ble_eq_true rfl) (Nat.le_of_ble_eq_true rfl) ⟨_, _, rfl, rfl⟩ rfl ?_
            refine c_C_deny  ?_
            show Wp true i_C_pour 33 [vr 0, vi x1, vi x2, vi x3, vi x4, vi x5] [vi (bi (False))] (hs h 0 0 1) Q
            exact r_retz f_148_33 rfl (bi_01 _) (k16 c1 c2 c3 c4 c5)

theorem g_C_pour_130 {Q : PQ} {h : HP} {x1 : Int} {x2 : Int} {x3 : Int} {x4 : Int} {x5 : Int} 
    (k1 : Q (some (vi (bi (True)))) (hs h 0 0 0)) :
    Wp true i_C_pour 130 [vr 0, vi x1, vi x2, vi x3, vi x4, vi x5] [] h Q := by
  refine r_aload_n (v := 0) f_148_130 rfl (by decide) ?_
  refine r_callv (as := [vr 0]) (st' := []) (ls0 := [vr 0]) f_148_131 (by decide) rfl rfl (Nat.le_of_ble_eq_true rfl) (Nat.le_of_ble_eq_true rfl) ⟨_, _, rfl, rfl⟩ rfl ?_
  refine c_C_grant  ?_
  show Wp true i_C_pour 134 [vr 0, vi x1, vi x2, vi x3, vi x4, vi x5] [vi (bi (True))] (hs h 0 0 0) Q
  exact r_retz f_148_134 rfl (bi_01 _) k1

theorem g_M_pour_0 {Q : PQ} {h : HP} {x1 : Int} {x2 : Int} {x3 : Int} {x4 : Int} {x5 : Int} 
    (k1 : ¬ (0 ≤ x1 ∧ x1 < 4) → Q (some (vi (bi ((1 : Int) = 0)))) (hs h 103 2 1))
    (k2 : (0 ≤ x1 ∧ x1 < 4) → ¬ (0 ≤ x3 ∧ x3 < 4) → Q (some (vi (bi ((1 : Int) = 0)))) (hs h 103 2 1))
    (k3 : (0 ≤ x1 ∧ x1 < 4) → (0 ≤ x3 ∧ x3 < 4) → x2 < 0 → Q (some (vi (bi ((1 : Int) = 0)))) (hs h 103 2 1))
    (k4 : (0 ≤ x1 ∧ x1 < 4) → (0 ≤ x3 ∧ x3 < 4) → ¬ x2 < 0 → x4 < 0 → Q (some (vi (bi ((1 : Int) = 0)))) (hs h 103 2 1))
    (o5 : (0 ≤ x1 ∧ x1 < 4) → (0 ≤ x3 ∧ x3 < 4) → ¬ x2 < 0 → ¬ x4 < 0 → 0 ≤ x5 → 0 ≤ x1 ∧ x1 < 4)
    (k6 : (0 ≤ x1 ∧ x1 < 4) → (0 ≤ x3 ∧ x3 < 4) → ¬ x2 < 0 → ¬ x4 < 0 → 0 ≤ x5 → h 107 x1.toNat = -1 → Q (some (vi (bi ((2 : Int) = 0)))) (hs h 103 2 2))
    (o7 : (0 ≤ x1 ∧ x1 < 4) → (0 ≤ x3 ∧ x3 < 4) → ¬ x2 < 0 → ¬ x4 < 0 → 0 ≤ x5 → ¬ h 107 x1.toNat = -1 → 0 ≤ x3 ∧ x3 < 4)
    (o8 : (0 ≤ x1 ∧ x1 < 4) → (0 ≤ x3 ∧ x3 < 4) → ¬ x2 < 0 → ¬ x4 < 0 → 0 ≤ x5 → ¬ h 107 x1.toNat = -1 → ¬ h 107 x3.toNat = -1 → h 106 x1.toNat = h 106 x3.toNat → -2147483648 ≤ (h 107 x1.toNat) - x2 ∧ (h 107 x1.toNat) - x2 ≤ 2147483647)
    (k9 : (0 ≤ x1 ∧ x1 < 4) → (0 ≤ x3 ∧ x3 < 4) → ¬ x2 < 0 → ¬ x4 < 0 → 0 ≤ x5 → ¬ h 107 x1.toNat = -1 → ¬ h 107 x3.toNat = -1 → h 106 x1.toNat = h 106 x3.toNat → (h 107 x1.toNat) - x2 < x5 → Q (some (vi (bi ((3 : Int) = 0)))) (hs h 103 2 3))
    (o10 : (0 ≤ x1 ∧ x1 < 4) → (0 ≤ x3 ∧ x3 < 4) → ¬ x2 < 0 → ¬ x4 < 0 → 0 ≤ x5 → ¬ h 107 x1.toNat = -1 → ¬ h 107 x3.toNat = -1 → h 106 x1.toNat = h 106 x3.toNat → ¬ (h 107 x1.toNat) - x2 < x5 → -2147483648 ≤ (h 107 x3.toNat) - x4 ∧ (h 107 x3.toNat) - x4 ≤ 2147483647)
    (k11 : (0 ≤ x1 ∧ x1 < 4) → (0 ≤ x3 ∧ x3 < 4) → ¬ x2 < 0 → ¬ x4 < 0 → 0 ≤ x5 → ¬ h 107 x1.toNat = -1 → ¬ h 107 x3.toNat = -1 → h 106 x1.toNat = h 106 x3.toNat → ¬ (h 107 x1.toNat) - x2 < x5 → x5 ≤ (h 107 x3.toNat) - x4 → Wp true i_M_pour 118 [vr 103, vi x1, vi x2, vi x3, vi x4, vi x5, vi 0, vr 9999] [] h Q)
    (k12 : (0 ≤ x1 ∧ x1 < 4) → (0 ≤ x3 ∧ x3 < 4) → ¬ x2 < 0 → ¬ x4 < 0 → 0 ≤ x5 → ¬ h 107 x1.toNat = -1 → ¬ h 107 x3.toNat = -1 → h 106 x1.toNat = h 106 x3.toNat → ¬ (h 107 x1.toNat) - x2 < x5 → ¬ x5 ≤ (h 107 x3.toNat) - x4 → Q (some (vi (bi ((3 : Int) = 0)))) (hs h 103 2 3))
    (k13 : (0 ≤ x1 ∧ x1 < 4) → (0 ≤ x3 ∧ x3 < 4) → ¬ x2 < 0 → ¬ x4 < 0 → 0 ≤ x5 → ¬ h 107 x1.toNat = -1 → ¬ h 107 x3.toNat = -1 → ¬ h 106 x1.toNat = h 106 x3.toNat → Q (some (vi (bi ((8 : Int) = 0)))) (hs h 103 2 8))
    (k14 : (0 ≤ x1 ∧ x1 < 4) → (0 ≤ x3 ∧ x3 < 4) → ¬ x2 < 0 → ¬ x4 < 0 → 0 ≤ x5 → ¬ h 107 x1.toNat = -1 → h 107 x3.toNat = -1 → Q (some (vi (bi ((2 : Int) = 0)))) (hs h 103 2 2))
    (k15 : (0 ≤ x1 ∧ x1 < 4) → (0 ≤ x3 ∧ x3 < 4) → ¬ x2 < 0 → ¬ x4 < 0 → ¬ 0 ≤ x5 → Q (some (vi (bi ((1 : Int) = 0)))) (hs h 103 2 1)) :
    Wp true i_M_pour 0 [vr 103, vi x1, vi x2, vi x3, vi x4, vi x5, vr 9999, vr 9999] [] h Q := by
  refine r_iload_n (v := x1) f_237_0 rfl ?_
  refine r_calls (as := [vi x1]) (st' := []) (ls0 := [vi x1]) f_237_1 (by decide) (by decide) rfl rfl (Nat.le_of_ble_eq_true rfl) (Nat.le_of_ble_eq_true rfl) rfl ?_
  refine c_M_isTray  ?_
  show Wp true i_M_pour 4 [vr 103, vi x1, vi x2, vi x3, vi x4, vi x5, vr 9999, vr 9999] [vi (bi (0 ≤ x1 ∧ x1 < 4))] h Q
  refine r_br (t := 28) f_237_4 rfl cb_bf (fun c1 => ?_) (fun c1 => ?_)
  · refine r_aload_n (v := 103) f_237_28 rfl (by decide) ?_
    refine r_iconst f_237_29 (by decide) ?_
    refine r_callv (as := [vr 103, vi 1]) (st' := []) (ls0 := [vr 103, vi 1]) f_237_30 (by decide) rfl rfl (Nat.le_of_ble_eq_true rfl) (Nat.le_of_ble_eq_true rfl) ⟨_, _, rfl, rfl⟩ rfl ?_
    refine c_M_is  ?_
    show Wp true i_M_pour 33 [vr 103, vi x1, vi x2, vi x3, vi x4, vi x5, vr 9999, vr 9999] [vi (bi ((1 : Int) = 0))] (hs h 103 2 1) Q
    exact r_retz f_237_33 rfl (bi_01 _) (k1 c1)
  · have c1 := Decidable.not_not.mp c1
    refine r_iload_n (v := x3) f_237_7 rfl ?_
    refine r_calls (as := [vi x3]) (st' := []) (ls0 := [vi x3]) f_237_8 (by decide) (by decide) rfl rfl (Nat.le_of_ble_eq_true rfl) (Nat.le_of_ble_eq_true rfl) rfl ?_
    refine c_M_isTray  ?_
    show Wp true i_M_pour 11 [vr 103, vi x1, vi x2, vi x3, vi x4, vi x5, vr 9999, vr 9999] [vi (bi (0 ≤ x3 ∧ x3 < 4))] h Q
    refine r_br (t := 28) f_237_11 rfl cb_bf (fun c2 => ?_) (fun c2 => ?_)
    · refine r_aload_n (v := 103) f_237_28 rfl (by decide) ?_
      refine r_iconst f_237_29 (by decide) ?_
      refine r_callv (as := [vr 103, vi 1]) (st' := []) (ls0 := [vr 103, vi 1]) f_237_30 (by decide) rfl rfl (Nat.le_of_ble_eq_true rfl) (Nat.le_of_ble_eq_true rfl) ⟨_, _, rfl, rfl⟩ rfl ?_
      refine c_M_is  ?_
      show Wp true i_M_pour 33 [vr 103, vi x1, vi x2, vi x3, vi x4, vi x5, vr 9999, vr 9999] [vi (bi ((1 : Int) = 0))] (hs h 103 2 1) Q
      exact r_retz f_237_33 rfl (bi_01 _) (k2 c1 c2)
    · have c2 := Decidable.not_not.mp c2
      refine r_iload_n (v := x2) f_237_14 rfl ?_
      refine r_br (t := 28) f_237_15 rfl cb_lt (fun c3 => ?_) (fun c3 => ?_)
      · refine r_aload_n (v := 103) f_237_28 rfl (by decide) ?_
        refine r_iconst f_237_29 (by decide) ?_
        refine r_callv (as := [vr 103, vi 1]) (st' := []) (ls0 := [vr 103, vi 1]) f_237_30 (by decide) rfl rfl (Nat.le_of_ble_eq_true rfl) (Nat.le_of_ble_eq_true rfl) ⟨_, _, rfl, rfl⟩ rfl ?_
        refine c_M_is  ?_
        show Wp true i_M_pour 33 [vr 103, vi x1, vi x2, vi x3, vi x4, vi x5, vr 9999, vr 9999] [vi (bi ((1 : Int) = 0))] (hs h 103 2 1) Q
        exact r_retz f_237_33 rfl (bi_01 _) (k3 c1 c2 c3)
      · refine r_iload (v := x4) f_237_18 rfl ?_
        refine r_br (t := 28) f_237_20 rfl cb_lt (fun c4 => ?_) (fun c4 => ?_)
        · refine r_aload_n (v := 103) f_237_28 rfl (by decide) ?_
          refine r_iconst f_237_29 (by decide) ?_
          refine r_callv (as := [vr 103, vi 1]) (st' := []) (ls0 := [vr 103, vi 1]) f_237_30 (by decide) rfl rfl (Nat.le_of_ble_eq_true rfl) (Nat.le_of_ble_eq_true rfl) ⟨_, _, rfl, rfl⟩ rfl ?_
          refine c_M_is  ?_
          show Wp true i_M_pour 33 [vr 103, vi x1, vi x2, vi x3, vi x4, vi x5, vr 9999, vr 9999] [vi (bi ((1 : Int) = 0))] (hs h 103 2 1) Q
          exact r_retz f_237_33 rfl (bi_01 _) (k4 c1 c2 c3 c4)
        · refine r_iload (v := x5) f_237_23 rfl ?_
          refine r_br (t := 34) f_237_25 rfl cb_ge (fun c5 => ?_) (fun c5 => ?_)
          · refine r_aload_n (v := 103) f_237_34 rfl (by decide) ?_
            refine r_getr (q := 107) f_237_35 rfl (by decide) (Or.inl rfl) rfl ?_
            refine r_iload_n (v := x1) f_237_38 rfl ?_
            refine r_iaload (n := 4) (v := h 107 x1.toNat) f_237_39 ⟨rfl, rfl⟩ (o5 c1 c2 c3 c4 c5) rfl ?_
            refine r_iconst f_237_40 (by decide) ?_
            refine r_br2 (t := 54) f_237_41 rfl cb_eq (fun c6 => ?_) (fun c6 => ?_)
            · refine r_aload_n (v := 103) f_237_54 rfl (by decide) ?_
              refine r_iconst f_237_55 (by decide) ?_
              refine r_callv (as := [vr 103, vi 2]) (st' := []) (ls0 := [vr 103, vi 2]) f_237_56 (by decide) rfl rfl (Nat.le_of_ble_eq_true rfl) (Nat.le_of_ble_eq_true rfl) ⟨_, _, rfl, rfl⟩ rfl ?_
              refine c_M_is  ?_
              show Wp true i_M_pour 59 [vr 103, vi x1, vi x2, vi x3, vi x4, vi x5, vr 9999, vr 9999] [vi (bi ((2 : Int) = 0))] (hs h 103 2 2) Q
              exact r_retz f_237_59 rfl (bi_01 _) (k6 c1 c2 c3 c4 c5 c6)
            · refine r_aload_n (v := 103) f_237_44 rfl (by decide) ?_
              refine r_getr (q := 107) f_237_45 rfl (by decide) (Or.inl rfl) rfl ?_
              refine r_iload_n (v := x3) f_237_48 rfl ?_
              refine r_iaload (n := 4) (v := h 107 x3.toNat) f_237_49 ⟨rfl, rfl⟩ (o7 c1 c2 c3 c4 c5 c6) rfl ?_
              refine r_iconst f_237_50 (by decide) ?_
              refine r_br2 (t := 60) f_237_51 rfl cb_ne (fun c7 => ?_) (fun c7 => ?_)
              · refine r_aload_n (v := 103) f_237_60 rfl (by decide) ?_
                refine r_getr (q := 106) f_237_61 rfl (by decide) (Or.inl rfl) rfl ?_
                refine r_iload_n (v := x1) f_237_64 rfl ?_
                refine r_iaload (n := 4) (v := h 106 x1.toNat) f_237_65 ⟨rfl, rfl⟩ (o5 c1 c2 c3 c4 c5) rfl ?_
                refine r_aload_n (v := 103) f_237_66 rfl (by decide) ?_
                refine r_getr (q := 106) f_237_67 rfl (by decide) (Or.inl rfl) rfl ?_
                refine r_iload_n (v := x3) f_237_70 rfl ?_
                refine r_iaload (n := 4) (v := h 106 x3.toNat) f_237_71 ⟨rfl, rfl⟩ (o7 c1 c2 c3 c4 c5 c6) rfl ?_
                refine r_br2 (t := 82) f_237_72 rfl cb_eq (fun c8 => ?_) (fun c8 => ?_)
                · refine r_iload (v := x5) f_237_82 rfl ?_
                  refine r_aload_n (v := 103) f_237_84 rfl (by decide) ?_
                  refine r_getr (q := 107) f_237_85 rfl (by decide) (Or.inl rfl) rfl ?_
                  refine r_iload_n (v := x1) f_237_88 rfl ?_
                  refine r_iaload (n := 4) (v := h 107 x1.toNat) f_237_89 ⟨rfl, rfl⟩ (o5 c1 c2 c3 c4 c5) rfl ?_
                  refine r_iload_n (v := x2) f_237_90 rfl ?_
                  refine r_isub (u := (h 107 x1.toNat) - x2) f_237_91 rfl (o8 c1 c2 c3 c4 c5 c6 c7 c8) ?_
                  refine r_br2 (t := 109) f_237_92 rfl cb_gt (fun c9 => ?_) (fun c9 => ?_)
                  · refine r_aload_n (v := 103) f_237_109 rfl (by decide) ?_
                    refine r_iconst f_237_110 (by decide) ?_
                    refine r_callv (as := [vr 103, vi 3]) (st' := []) (ls0 := [vr 103, vi 3]) f_237_111 (by decide) rfl rfl (Nat.le_of_ble_eq_true rfl) (Nat.le_of_ble_eq_true rfl) ⟨_, _, rfl, rfl⟩ rfl ?_
                    refine c_M_is  ?_
                    show Wp true i_M_pour 114 [vr 103, vi x1, vi x2, vi x3, vi x4, vi x5, vr 9999, vr 9999] [vi (bi ((3 : Int) = 0))] (hs h 103 2 3) Q
                    exact r_retz f_237_114 rfl (bi_01 _) (k9 c1 c2 c3 c4 c5 c6 c7 c8 c9)
                  · refine r_iload (v := x5) f_237_95 rfl ?_
                    refine r_aload_n (v := 103) f_237_97 rfl (by decide) ?_
                    refine r_getr (q := 107) f_237_98 rfl (by decide) (Or.inl rfl) rfl ?_
                    refine r_iload_n (v := x3) f_237_101 rfl ?_
                    refine r_iaload (n := 4) (v := h 107 x3.toNat) f_237_102 ⟨rfl, rfl⟩ (o7 c1 c2 c3 c4 c5 c6) rfl ?_
                    refine r_iload (v := x4) f_237_103 rfl ?_
                    refine r_isub (u := (h 107 x3.toNat) - x4) f_237_105 rfl (o10 c1 c2 c3 c4 c5 c6 c7 c8 c9) ?_
                    refine r_br2 (t := 115) f_237_106 rfl cb_le (fun c10 => ?_) (fun c10 => ?_)
                    · refine r_iconst f_237_115 (by decide) ?_
                      refine r_istore (ls' := [vr 103, vi x1, vi x2, vi x3, vi x4, vi x5, vi 0, vr 9999]) f_237_116 (Nat.le_of_ble_eq_true rfl) rfl ?_
                      exact (k11 c1 c2 c3 c4 c5 c6 c7 c8 c9 c10)
                    · refine r_aload_n (v := 103) f_237_109 rfl (by decide) ?_
                      refine r_iconst f_237_110 (by decide) ?_
                      refine r_callv (as := [vr 103, vi 3]) (st' := []) (ls0 := [vr 103, vi 3]) f_237_111 (by decide) rfl rfl (Nat.le_of_ble_eq_true rfl) (Nat.le_of_ble_eq_true rfl) ⟨_, _, rfl, rfl⟩ rfl ?_
                      refine c_M_is  ?_
                      show Wp true i_M_pour 114 [vr 103, vi x1, vi x2, vi x3, vi x4, vi x5, vr 9999, vr 9999] [vi (bi ((3 : Int) = 0))] (hs h 103 2 3) Q
                      exact r_retz f_237_114 rfl (bi_01 _) (k12 c1 c2 c3 c4 c5 c6 c7 c8 c9 c10)
                · refine r_aload_n (v := 103) f_237_75 rfl (by decide) ?_
                  refine r_bipush f_237_76 (by decide) ?_
                  refine r_callv (as := [vr 103, vi 8]) (st' := []) (ls0 := [vr 103, vi 8]) f_237_78 (by decide) rfl rfl (Nat.le_of_ble_eq_true rfl) (Nat.le_of_ble_eq_true rfl) ⟨_, _, rfl, rfl⟩ rfl ?_
                  refine c_M_is  ?_
                  show Wp true i_M_pour 81 [vr 103, vi x1, vi x2, vi x3, vi x4, vi x5, vr 9999, vr 9999] [vi (bi ((8 : Int) = 0))] (hs h 103 2 8) Q
                  exact r_retz f_237_81 rfl (bi_01 _) (k13 c1 c2 c3 c4 c5 c6 c7 c8)
              · have c7 := Decidable.not_not.mp c7
                refine r_aload_n (v := 103) f_237_54 rfl (by decide) ?_
                refine r_iconst f_237_55 (by decide) ?_
                refine r_callv (as := [vr 103, vi 2]) (st' := []) (ls0 := [vr 103, vi 2]) f_237_56 (by decide) rfl rfl (Nat.le_of_ble_eq_true rfl) (Nat.le_of_ble_eq_true rfl) ⟨_, _, rfl, rfl⟩ rfl ?_
                refine c_M_is  ?_
                show Wp true i_M_pour 59 [vr 103, vi x1, vi x2, vi x3, vi x4, vi x5, vr 9999, vr 9999] [vi (bi ((2 : Int) = 0))] (hs h 103 2 2) Q
                exact r_retz f_237_59 rfl (bi_01 _) (k14 c1 c2 c3 c4 c5 c6 c7)
          · refine r_aload_n (v := 103) f_237_28 rfl (by decide) ?_
            refine r_iconst f_237_29 (by decide) ?_
            refine r_callv (as := [vr 103, vi 1]) (st' := []) (ls0 := [vr 103, vi 1]) f_237_30 (by decide) rfl rfl (Nat.le_of_ble_eq_true rfl) (Nat.le_of_ble_eq_true rfl) ⟨_, _, rfl, rfl⟩ rfl ?_
            refine c_M_is  ?_
            show Wp true i_M_pour 33 [vr 103, vi x1, vi x2, vi x3, vi x4, vi x5, vr 9999, vr 9999] [vi (bi ((1 : Int) = 0))] (hs h 103 2 1) Q
            exact r_retz f_237_33 rfl (bi_01 _) (k15 c1 c2 c3 c4 c5)

theorem g_M_pour_118 {Q : PQ} {h : HP} {x1 : Int} {x2 : Int} {x3 : Int} {x4 : Int} {x5 : Int} {x6 : Int} {j7 : AV} 
    (k1 : x5 ≤ x6 → Q (some (vi (bi ((0 : Int) = 0)))) (hs h 103 2 0))
    (k2 : ¬ x5 ≤ x6 → x4 ≤ x2 → Wp true i_M_pour 143 [vr 103, vi x1, vi x2, vi x3, vi x4, vi x5, vi x6, j7] [vi x6] h Q)
    (o3 : ¬ x5 ≤ x6 → ¬ x4 ≤ x2 → -2147483648 ≤ x5 - 1 ∧ x5 - 1 ≤ 2147483647)
    (o4 : ¬ x5 ≤ x6 → ¬ x4 ≤ x2 → -2147483648 ≤ (x5 - 1) - x6 ∧ (x5 - 1) - x6 ≤ 2147483647)
    (k5 : ¬ x5 ≤ x6 → ¬ x4 ≤ x2 → Wp true i_M_pour 143 [vr 103, vi x1, vi x2, vi x3, vi x4, vi x5, vi x6, j7] [vi ((x5 - 1) - x6)] h Q) :
    Wp true i_M_pour 118 [vr 103, vi x1, vi x2, vi x3, vi x4, vi x5, vi x6, j7] [] h Q := by
  refine r_iload (v := x6) f_237_118 rfl ?_
  refine r_iload (v := x5) f_237_120 rfl ?_
  refine r_br2 (t := 180) f_237_122 rfl cb_ge (fun c1 => ?_) (fun c1 => ?_)
  · refine r_aload_n (v := 103) f_237_180 rfl (by decide) ?_
    refine r_iconst f_237_181 (by decide) ?_
    refine r_callv (as := [vr 103, vi 0]) (st' := []) (ls0 := [vr 103, vi 0]) f_237_182 (by decide) rfl rfl (Nat.le_of_ble_eq_true rfl) (Nat.le_of_ble_eq_true rfl) ⟨_, _, rfl, rfl⟩ rfl ?_
    refine c_M_is  ?_
    show Wp true i_M_pour 185 [vr 103, vi x1, vi x2, vi x3, vi x4, vi x5, vi x6, j7] [vi (bi ((0 : Int) = 0))] (hs h 103 2 0) Q
    exact r_retz f_237_185 rfl (bi_01 _) (k1 c1)
  · refine r_iload_n (v := x2) f_237_125 rfl ?_
    refine r_iload (v := x4) f_237_126 rfl ?_
    refine r_br2 (t := 141) f_237_128 rfl cb_ge (fun c2 => ?_) (fun c2 => ?_)
    · refine r_iload (v := x6) f_237_141 rfl ?_
      exact (k2 c1 c2)
    · refine r_iload (v := x5) f_237_131 rfl ?_
      refine r_iconst f_237_133 (by decide) ?_
      refine r_isub (u := x5 - 1) f_237_134 rfl (o3 c1 c2) ?_
      refine r_iload (v := x6) f_237_135 rfl ?_
      refine r_isub (u := (x5 - 1) - x6) f_237_137 rfl (o4 c1 c2) ?_
      refine r_goto (t := 143) f_237_138 rfl ?_
      exact (k5 c1 c2)

theorem g_M_pour_143 {Q : PQ} {h : HP} {x1 : Int} {x2 : Int} {x3 : Int} {x4 : Int} {x5 : Int} {x6 : Int} {j7 : AV} {s0 : Int} 
    (o1 : -2147483648 ≤ 60 * x3 ∧ 60 * x3 ≤ 2147483647)
    (o2 : -2147483648 ≤ (60 * x3) + x4 ∧ (60 * x3) + x4 ≤ 2147483647)
    (o3 : -2147483648 ≤ ((60 * x3) + x4) + s0 ∧ ((60 * x3) + x4) + s0 ≤ 2147483647)
    (o4 : -2147483648 ≤ 60 * x1 ∧ 60 * x1 ≤ 2147483647)
    (o5 : -2147483648 ≤ (60 * x1) + x2 ∧ (60 * x1) + x2 ≤ 2147483647)
    (o6 : -2147483648 ≤ ((60 * x1) + x2) + s0 ∧ ((60 * x1) + x2) + s0 ≤ 2147483647)
    (o7 : 0 ≤ ((60 * x1) + x2) + s0 ∧ ((60 * x1) + x2) + s0 < 240)
    (o8 : 0 ≤ ((60 * x3) + x4) + s0 ∧ ((60 * x3) + x4) + s0 < 240)
    (o9 : -2147483648 ≤ x6 + 1 ∧ x6 + 1 ≤ 2147483647)
    (k10 : Wp true i_M_pour 118 [vr 103, vi x1, vi x2, vi x3, vi x4, vi x5, vi (x6 + 1), vi s0] [] (hs h 108 (((60 * x3) + x4) + s0).toNat (h 108 (((60 * x1) + x2) + s0).toNat)) Q) :
    Wp true i_M_pour 143 [vr 103, vi x1, vi x2, vi x3, vi x4, vi x5, vi x6, j7] [vi s0] h Q := by
  refine r_istore (ls' := [vr 103, vi x1, vi x2, vi x3, vi x4, vi x5, vi x6, vi s0]) f_237_143 (Nat.le_of_ble_eq_true rfl) rfl ?_
  refine r_aload_n (v := 103) f_237_145 rfl (by decide) ?_
  refine r_getr (q := 108) f_237_146 rfl (by decide) (Or.inl rfl) rfl ?_
  refine r_bipush f_237_149 (by decide) ?_
  refine r_iload_n (v := x3) f_237_151 rfl ?_
  refine r_imul (u := 60 * x3) f_237_152 rfl o1 ?_
  refine r_iload (v := x4) f_237_153 rfl ?_
  refine r_iadd (u := (60 * x3) + x4) f_237_155 rfl o2 ?_
  refine r_iload (v := s0) f_237_156 rfl ?_
  refine r_iadd (u := ((60 * x3) + x4) + s0) f_237_158 rfl o3 ?_
  refine r_aload_n (v := 103) f_237_159 rfl (by decide) ?_
  refine r_getr (q := 108) f_237_160 rfl (by decide) (Or.inl rfl) rfl ?_
  refine r_bipush f_237_163 (by decide) ?_
  refine r_iload_n (v := x1) f_237_165 rfl ?_
  refine r_imul (u := 60 * x1) f_237_166 rfl o4 ?_
  refine r_iload_n (v := x2) f_237_167 rfl ?_
  refine r_iadd (u := (60 * x1) + x2) f_237_168 rfl o5 ?_
  refine r_iload (v := s0) f_237_169 rfl ?_
  refine r_iadd (u := ((60 * x1) + x2) + s0) f_237_171 rfl o6 ?_
  refine r_laload (n := 240) (v := h 108 (((60 * x1) + x2) + s0).toNat) f_237_172 ⟨rfl, rfl⟩ o7 rfl ?_
  refine r_lastore (n := 240) f_237_173 ⟨rfl, rfl⟩ o8 ?_
  refine r_iinc (v := x6) (w := x6 + 1) (ls' := [vr 103, vi x1, vi x2, vi x3, vi x4, vi x5, vi (x6 + 1), vi s0]) f_237_174 rfl rfl o9 rfl ?_
  refine r_goto (t := 118) f_237_177 rfl ?_
  exact k10

theorem A_read {n : Nat} {h : HP} {x1 x2 : Int} (hR : Rel n h) (hx : -2147483648 ≤ x2 ∧ x2 ≤ 2147483647) : Agree n h i_C_read i_M_read [vr 0, vi x1, vi x2, vr 9999] [vr 103, vi x1, vi x2] := by
  have hT := hR.2.2.2.1
  have e1 := sTr_eq hT x1 x2
  by_cases c : sTr (h 3) (h 4) x1 x2 = 0
  · have a := sTr_0 hT c
    have e2 : h 2 (x1 * 60 + x2).toNat = h 108 (60 * x1 + x2).toNat := by
      rcases hT x1.toNat (by omega) with b | ⟨-, -, -, -, b⟩
      · omega
      · have := b x2.toNat (by omega)
        have q1 : 60 * x1.toNat + x2.toNat = (x1 * 60 + x2).toNat := by omega
        have q2 : (60 * x1 + x2).toNat = (x1 * 60 + x2).toNat := by omega
        rw [q1] at this
        rw [q2]
        exact this
    refine ag_act0 (v := vj (h 108 (60 * x1 + x2).toNat)) (st := 0) hR (fun Q k => ?_) (fun g Q e gk k => ?_)
    · refine g_C_read_0 hx (fun _ => by omega) (fun _ => by omega) (fun _ => ?_) (fun q => absurd c q)
      rw [hs_ne (by decide), e2]
      exact k
    · rw [← c, ← e1, ← gk 107 (by decide)] at k
      rw [c, ← gk 107 (by decide)] at e1
      refine g_M_read_0 (fun _ => by omega) (fun _ => by omega) (fun _ => by omega) (fun _ => ?_) (fun q => by omega)
      rw [gk 108 (by decide)]
      exact k
  · have cc : sTr (h 3) (h 4) x1 x2 = 1 ∨ sTr (h 3) (h 4) x1 x2 = 2 ∨ sTr (h 3) (h 4) x1 x2 = 3 := by
      unfold sTr at c ⊢
      split <;> (try split) <;> (try split) <;> simp_all
    refine ag_act0 (v := vj (-1)) (st := sTr (h 3) (h 4) x1 x2) hR (fun Q k => ?_) (fun g Q e gk k => ?_)
    · exact g_C_read_0 hx (fun q => absurd q c) (fun q => absurd q c) (fun q => absurd q c) (fun _ => k)
    · rw [← e1, ← gk 107 (by decide)] at k
      rw [← gk 107 (by decide)] at e1
      exact g_M_read_0 (fun q => by omega) (fun q => by omega) (fun q => by omega) (fun q => by omega) (fun _ => k)
theorem A_write {n : Nat} {h : HP} {x1 x2 y3 : Int} (hR : Rel n h) (hx : -2147483648 ≤ x2 ∧ x2 ≤ 2147483647) : Agree n h i_C_write i_M_write [vr 0, vi x1, vi x2, vj y3, vr 9999, vr 9999] [vr 103, vi x1, vi x2, vj y3, vr 9999, vr 9999] := by
  have hT := hR.2.2.2.1
  have e1 := sTr_eq hT x1 x2
  by_cases c : sTr (h 3) (h 4) x1 x2 = 0
  · have a := sTr_0 hT c
    have r1 := RT_1 hT a.1
    have q1 : (x1 * 60 + x2).toNat = 60 * x1.toNat + x2.toNat := by omega
    have q2 : (60 * x1 + x2).toNat = 60 * x1.toNat + x2.toNat := by omega
    refine ag_tray (v := vi 1) (st := 0) (hc1 := hs h 2 (60 * x1.toNat + x2.toNat) (sFit (h 3 x1.toNat) y3)) (fun g => hs g 108 (60 * x1.toNat + x2.toNat) (sFit (h 3 x1.toNat) y3)) hR (fun k hk => hs_ne (by omega)) (fun g k hk => hs_ne (by omega)) ?_ (fun Q k => ?_) (fun g Q gk k => ?_)
    · intro t ht
      have f3 : (hs (hs (hs (hs h 2 (60 * x1.toNat + x2.toNat) (sFit (h 3 x1.toNat) y3)) 0 0 0) 108 (60 * x1.toNat + x2.toNat) (sFit (h 3 x1.toNat) y3)) 103 2 0) = fun k i => if k = 103 ∧ i = 2 then 0 else if k = 108 ∧ i = 60 * x1.toNat + x2.toNat then sFit (h 3 x1.toNat) y3 else if k = 0 ∧ i = 0 then 0 else if k = 2 ∧ i = 60 * x1.toNat + x2.toNat then sFit (h 3 x1.toNat) y3 else h k i := rfl
      rw [f3]
      rcases hT t ht with b | ⟨b1, b2, b3, b4, b5⟩
      · left; simp [b]
      · right
        refine ⟨by simpa using b1, by simpa using b2, by simpa using b3, by simpa using b4, fun p hp => ?_⟩
        have hp : (p : Int) < h 4 t := by simpa using hp
        have := b5 p hp
        simp
        split
        · rfl
        · exact this
    · refine g_C_write_0 hx (fun _ => by omega) (fun _ => by omega) (fun _ => ?_) (fun q => absurd c q)
      rw [q1]
      exact k
    · have gs : g 106 x1.toNat = h 3 x1.toNat := by rw [gk 106 (by decide)]; omega
      have ec : sTr (g 107) (g 107) x1 x2 = 0 := by rw [gk 107 (by decide), e1, c]
      refine g_M_write_0 (fun q => absurd ec q) (fun _ => by omega) (fun _ => by omega) (fun _ => by omega) (fun _ => by omega) (fun _ => ?_)
      rw [ec, q2, gs]
      exact k
  · refine ag_act0 (v := vi 0) (st := sTr (h 3) (h 4) x1 x2) hR (fun Q k => ?_) (fun g Q e gk k => ?_)
    · exact g_C_write_0 hx (fun q => absurd q c) (fun q => absurd q c) (fun q => absurd q c) (fun _ => k)
    · rw [← e1, ← gk 107 (by decide)] at k
      rw [← e1, ← gk 107 (by decide)] at c
      refine g_M_write_0 (fun _ => ?_) (fun q => absurd q c) (fun q => absurd q c) (fun q => absurd q c) (fun q => absurd q c) (fun q => absurd q c)
      rw [bi_f c]
      exact k
theorem c_Ty_lay {Q : PQ} {h : HP} {x1 x2 x3 : Int} (o1 : 0 ≤ x1 ∧ x1 < 4) (k : Q none (wr (hs (hs h 3 x1.toNat x2) 4 x1.toNat x3) 2 (60 * x1.toNat) 60 (fun _ => 0))) : Wp true i_Ty_lay 0 [vr 1, vi x1, vi x2, vi x3, vr 9999] [] h Q := by
  refine g_Ty_lay_0 o1 ?_
  have key : ∀ (d i : Nat), i + d = 60 → Wp true i_Ty_lay 17 [vr 1, vi x1, vi x2, vi x3, vi (i : Int)] [] (wr (hs (hs h 3 x1.toNat x2) 4 x1.toNat x3) 2 (60 * x1.toNat) i (fun _ => 0)) Q := by
    intro d
    induction d with
    | zero =>
      intro i e
      have : i = 60 := by omega
      subst this
      refine g_Ty_lay_17 ?_ ?_ ?_ ?_ ?_ ?_
      · intro c1; (try simp only [Int.toNat_natCast] at c1); first | (exfalso; omega) | exact absurd trivial ‹¬ True› | (exact k)
      · intro c1; (try simp only [Int.toNat_natCast] at c1); first | omega | (exfalso; omega) | exact ⟨by omega, by omega⟩ | (omega) | exact absurd trivial ‹¬ True›
      · intro c1; (try simp only [Int.toNat_natCast] at c1); first | omega | (exfalso; omega) | exact ⟨by omega, by omega⟩ | (omega) | exact absurd trivial ‹¬ True›
      · intro c1; (try simp only [Int.toNat_natCast] at c1); first | omega | (exfalso; omega) | exact ⟨by omega, by omega⟩ | (omega) | exact absurd trivial ‹¬ True›
      · intro c1; (try simp only [Int.toNat_natCast] at c1); first | omega | (exfalso; omega) | exact ⟨by omega, by omega⟩ | (omega) | exact absurd trivial ‹¬ True›
      · intro c1; (try simp only [Int.toNat_natCast] at c1); first | (exfalso; omega) | exact absurd trivial ‹¬ True› | (skip)
    | succ d ih =>
      intro i e
      have ei : (x1 * 60 + (i : Int)).toNat = 60 * x1.toNat + i := by omega
      refine g_Ty_lay_17 ?_ ?_ ?_ ?_ ?_ ?_
      · intro c1; (try simp only [Int.toNat_natCast] at c1); first | (exfalso; omega) | exact absurd trivial ‹¬ True› | (skip)
      · intro c1; (try simp only [Int.toNat_natCast] at c1); first | omega | (exfalso; omega) | exact ⟨by omega, by omega⟩ | (omega) | exact absurd trivial ‹¬ True›
      · intro c1; (try simp only [Int.toNat_natCast] at c1); first | omega | (exfalso; omega) | exact ⟨by omega, by omega⟩ | (omega) | exact absurd trivial ‹¬ True›
      · intro c1; (try simp only [Int.toNat_natCast] at c1); first | omega | (exfalso; omega) | exact ⟨by omega, by omega⟩ | (omega) | exact absurd trivial ‹¬ True›
      · intro c1; (try simp only [Int.toNat_natCast] at c1); first | omega | (exfalso; omega) | exact ⟨by omega, by omega⟩ | (omega) | exact absurd trivial ‹¬ True›
      · intro c1; (try simp only [Int.toNat_natCast] at c1); first | (exfalso; omega) | exact absurd trivial ‹¬ True› | (rw [ei, wr_s]; exact ih (i + 1) (by omega))
  have := key 60 0 rfl
  rw [wr_0] at this
  exact this
theorem c_M_tray49 {Q : PQ} {h : HP} {x1 x2 x3 : Int} (o1 : 0 ≤ x1 ∧ x1 < 4) (o3 : 0 ≤ x3 ∧ x3 ≤ 60) (k : Q (some (vi 1)) (hs (wr h 108 (60 * x1.toNat) x3.toNat (fun _ => 0)) 103 2 0)) : Wp true i_M_tray 49 [vr 103, vi x1, vi x2, vi x3, vi 0] [] h Q := by
  have key : ∀ (d i : Nat), (i : Int) + d = x3 → Wp true i_M_tray 49 [vr 103, vi x1, vi x2, vi x3, vi (i : Int)] [] (wr h 108 (60 * x1.toNat) i (fun _ => 0)) Q := by
    intro d
    induction d with
    | zero =>
      intro i e
      have : i = x3.toNat := by omega
      subst this
      refine g_M_tray_49 ?_ ?_ ?_ ?_ ?_ ?_
      · intro c1; (try simp only [Int.toNat_natCast] at c1); first | (exfalso; omega) | exact absurd trivial ‹¬ True› | (exact k)
      · intro c1; (try simp only [Int.toNat_natCast] at c1); first | omega | (exfalso; omega) | exact ⟨by omega, by omega⟩ | (omega) | exact absurd trivial ‹¬ True›
      · intro c1; (try simp only [Int.toNat_natCast] at c1); first | omega | (exfalso; omega) | exact ⟨by omega, by omega⟩ | (omega) | exact absurd trivial ‹¬ True›
      · intro c1; (try simp only [Int.toNat_natCast] at c1); first | omega | (exfalso; omega) | exact ⟨by omega, by omega⟩ | (omega) | exact absurd trivial ‹¬ True›
      · intro c1; (try simp only [Int.toNat_natCast] at c1); first | omega | (exfalso; omega) | exact ⟨by omega, by omega⟩ | (omega) | exact absurd trivial ‹¬ True›
      · intro c1; (try simp only [Int.toNat_natCast] at c1); first | (exfalso; omega) | exact absurd trivial ‹¬ True› | (skip)
    | succ d ih =>
      intro i e
      have ei : (60 * x1 + (i : Int)).toNat = 60 * x1.toNat + i := by omega
      refine g_M_tray_49 ?_ ?_ ?_ ?_ ?_ ?_
      · intro c1; (try simp only [Int.toNat_natCast] at c1); first | (exfalso; omega) | exact absurd trivial ‹¬ True› | (skip)
      · intro c1; (try simp only [Int.toNat_natCast] at c1); first | omega | (exfalso; omega) | exact ⟨by omega, by omega⟩ | (omega) | exact absurd trivial ‹¬ True›
      · intro c1; (try simp only [Int.toNat_natCast] at c1); first | omega | (exfalso; omega) | exact ⟨by omega, by omega⟩ | (omega) | exact absurd trivial ‹¬ True›
      · intro c1; (try simp only [Int.toNat_natCast] at c1); first | omega | (exfalso; omega) | exact ⟨by omega, by omega⟩ | (omega) | exact absurd trivial ‹¬ True›
      · intro c1; (try simp only [Int.toNat_natCast] at c1); first | omega | (exfalso; omega) | exact ⟨by omega, by omega⟩ | (omega) | exact absurd trivial ‹¬ True›
      · intro c1; (try simp only [Int.toNat_natCast] at c1); first | (exfalso; omega) | exact absurd trivial ‹¬ True› | (rw [ei, wr_s]; exact ih (i + 1) (by omega))
  have := key x3.toNat 0 (by omega)
  rw [wr_0] at this
  exact this
theorem A_tray {n : Nat} {h : HP} {x1 x2 x3 : Int} (hR : Rel n h) : Agree n h i_C_tray i_M_tray [vr 0, vi x1, vi x2, vi x3] [vr 103, vi x1, vi x2, vi x3, vr 9999] := by
  have hT := hR.2.2.2.1
  by_cases c1 : (0 ≤ x1 ∧ x1 ≤ 3) ∧ (0 ≤ x2 ∧ x2 ≤ 3) ∧ (0 ≤ x3 ∧ x3 ≤ 60)
  · obtain ⟨c1, c2, c3⟩ := c1
    refine ag_tray (v := vi 1) (st := 0) (hc1 := wr (hs (hs h 3 x1.toNat x2) 4 x1.toNat x3) 2 (60 * x1.toNat) 60 (fun _ => 0)) (fun g => wr (hs (hs g 106 x1.toNat x2) 107 x1.toNat x3) 108 (60 * x1.toNat) x3.toNat (fun _ => 0)) hR
      (fun k hk => by rw [wr_ne (by omega), hs_ne (by omega), hs_ne (by omega)]) (fun g k hk => by rw [wr_ne (by omega), hs_ne (by omega), hs_ne (by omega)]) ?_ (fun Q k => ?_) (fun g Q gk k => ?_)
    · intro t ht
      have f3 : (hs (wr (hs (hs (hs (wr (hs (hs h 3 x1.toNat x2) 4 x1.toNat x3) 2 (60 * x1.toNat) 60 (fun _ => 0)) 0 0 0) 106 x1.toNat x2) 107 x1.toNat x3) 108 (60 * x1.toNat) x3.toNat (fun _ => 0)) 103 2 0) = fun k i => if k = 103 ∧ i = 2 then 0 else if k = 108 ∧ 60 * x1.toNat ≤ i ∧ i < 60 * x1.toNat + x3.toNat then 0 else if k = 107 ∧ i = x1.toNat then x3 else if k = 106 ∧ i = x1.toNat then x2 else if k = 0 ∧ i = 0 then 0 else if k = 2 ∧ 60 * x1.toNat ≤ i ∧ i < 60 * x1.toNat + 60 then 0 else if k = 4 ∧ i = x1.toNat then x3 else if k = 3 ∧ i = x1.toNat then x2 else h k i := rfl
      rw [f3]
      by_cases et : t = x1.toNat
      · subst et
        right
        simp
        refine ⟨by omega, by omega, fun p hp => ?_⟩
        rw [if_pos (by omega), if_pos (by omega)]
      · rcases hT t ht with b | ⟨b1, b2, b3, b4, b5⟩
        · left; simp [b, et]
        · right
          refine ⟨by simpa [et] using b1, by simpa [et] using b2, by simpa [et] using b3, by simpa [et] using b4, fun p hp => ?_⟩
          have hp : (p : Int) < h 4 t := by simpa [et] using hp
          have := b5 p hp
          simp
          rw [if_neg (by omega), if_neg (by omega)]
          exact this
    · refine g_C_tray_0 (fun q => absurd c1 q) (fun _ q => absurd c2 q) (fun _ _ _ => ?_) (fun _ _ q => absurd c3 q)
      exact c_Ty_lay (by omega) (g_C_tray_42 k)
    · refine g_M_tray_0 (fun q => by omega) (fun _ q => by omega) (fun _ _ q => by omega) (fun _ _ _ q => by omega) (fun _ _ _ _ _ => by omega) (fun _ _ _ _ _ => ?_) (fun _ _ _ _ q => by omega)
      exact c_M_tray49 (by omega) c3 k
  · refine ag_act0 (v := vi 0) (st := 1) hR (fun Q k => ?_) (fun g Q e gk k => ?_)
    · refine g_C_tray_0 ?_ ?_ ?_ ?_
      all_goals (intros; first | exact k | omega | (exfalso; omega))
    · refine g_M_tray_0 ?_ ?_ ?_ ?_ ?_ ?_ ?_
      all_goals (intros; first | exact k | omega | (exfalso; omega))
theorem cpy_f {h : HP} {k sp dp i : Nat} (c : sp + i < dp ∨ dp ≤ sp) : hs (cpy h k sp k dp i) k (dp + i) (cpy h k sp k dp i k (sp + i)) = cpy h k sp k dp (i + 1) := by
  have e : cpy h k sp k dp i k (sp + i) = h k (sp + i) := by
    simp only [cpy]; rw [if_neg (by omega)]
  rw [e, cpy_wr, cpy_wr]
  exact wr_s (T := fun j => h k (sp + j))
theorem cpy_b {h : HP} {k sp dp i : Nat} (c : sp < dp ∨ dp + i < sp) : hs (cpy h k (sp + 1) k (dp + 1) i) k dp (cpy h k (sp + 1) k (dp + 1) i k sp) = cpy h k sp k dp (i + 1) := by
  have e : cpy h k (sp + 1) k (dp + 1) i k sp = h k sp := by
    simp only [cpy]; rw [if_neg (by omega)]
  rw [e]
  funext k' j
  simp only [cpy, hs]
  by_cases d : k' = k ∧ j = dp
  · obtain ⟨rfl, rfl⟩ := d
    rw [if_pos ⟨rfl, rfl⟩, if_pos (by omega)]
    congr 1; omega
  · rw [if_neg d]
    by_cases d2 : k' = k ∧ dp + 1 ≤ j ∧ j < dp + 1 + i
    · rw [if_pos d2, if_pos (by omega)]
      congr 1; omega
    · rw [if_neg d2, if_neg (by omega)]
theorem cpy_0 {h : HP} {k sp dp : Nat} : cpy h k sp k dp 0 = h := by rw [cpy_wr]; exact wr_0
theorem c_M_pour118 {Q : PQ} {h : HP} {x1 x2 x3 x4 x5 : Int} (o1 : 0 ≤ x1 ∧ x1 < 4) (o3 : 0 ≤ x3 ∧ x3 < 4) (o2 : 0 ≤ x2) (o4 : 0 ≤ x4) (o5 : 0 ≤ x5) (o6 : x2 + x5 ≤ 60) (o7 : x4 + x5 ≤ 60) (j7 : AV)
    (k : Q (some (vi 1)) (hs (cpy h 108 (60 * x1 + x2).toNat 108 (60 * x3 + x4).toNat x5.toNat) 103 2 0)) : Wp true i_M_pour 118 [vr 103, vi x1, vi x2, vi x3, vi x4, vi x5, vi 0, j7] [] h Q := by
  by_cases dir : x4 ≤ x2
  · have key : ∀ (d i : Nat) (j7 : AV), (i : Int) + d = x5 → Wp true i_M_pour 118 [vr 103, vi x1, vi x2, vi x3, vi x4, vi x5, vi (i : Int), j7] [] (cpy h 108 (60 * x1 + x2).toNat 108 (60 * x3 + x4).toNat i) Q := by
      intro d
      induction d with
      | zero =>
        intro i j7 e
        have : i = x5.toNat := by omega
        subst this
        refine g_M_pour_118 ?_ ?_ ?_ ?_ ?_
        · intro c1; (try simp only [Int.toNat_natCast] at c1); first | (exfalso; omega) | exact absurd trivial ‹¬ True› | (exact k)
        · intro c1 c2; (try simp only [Int.toNat_natCast] at c1 c2); first | (exfalso; omega) | exact absurd trivial ‹¬ True› | (skip)
        · intro c1 c2; (try simp only [Int.toNat_natCast] at c1 c2); first | omega | (exfalso; omega) | exact ⟨by omega, by omega⟩ | (omega) | exact absurd trivial ‹¬ True›
        · intro c1 c2; (try simp only [Int.toNat_natCast] at c1 c2); first | omega | (exfalso; omega) | exact ⟨by omega, by omega⟩ | (omega) | exact absurd trivial ‹¬ True›
        · intro c1 c2; (try simp only [Int.toNat_natCast] at c1 c2); first | (exfalso; omega) | exact absurd trivial ‹¬ True› | (skip)
      | succ d ih =>
        intro i j7 e
        refine g_M_pour_118 (fun _ => by omega) (fun _ _ => ?_) (fun _ q => absurd dir q) (fun _ q => absurd dir q) (fun _ q => absurd dir q)
        refine g_M_pour_143 (by omega) (by omega) (by omega) (by omega) (by omega) (by omega) (by omega) (by omega) (by omega) ?_
        have e1 : (60 * x1 + x2 + (i : Int)).toNat = (60 * x1 + x2).toNat + i := by omega
        have e2 : (60 * x3 + x4 + (i : Int)).toNat = (60 * x3 + x4).toNat + i := by omega
        rw [e1, e2, cpy_f (by omega)]
        exact ih (i + 1) _ (by omega)
    have := key x5.toNat 0 j7 (by omega)
    rw [cpy_0] at this
    exact this
  · have key : ∀ (d i : Nat) (j7 : AV), (i : Int) + d = x5 → Wp true i_M_pour 118 [vr 103, vi x1, vi x2, vi x3, vi x4, vi x5, vi (i : Int), j7] [] (cpy h 108 ((60 * x1 + x2).toNat + d) 108 ((60 * x3 + x4).toNat + d) i) Q := by
      intro d
      induction d with
      | zero =>
        intro i j7 e
        have : i = x5.toNat := by omega
        subst this
        refine g_M_pour_118 ?_ ?_ ?_ ?_ ?_
        · intro c1; (try simp only [Int.toNat_natCast] at c1); first | (exfalso; omega) | exact absurd trivial ‹¬ True› | (exact k)
        · intro c1 c2; (try simp only [Int.toNat_natCast] at c1 c2); first | (exfalso; omega) | exact absurd trivial ‹¬ True› | (skip)
        · intro c1 c2; (try simp only [Int.toNat_natCast] at c1 c2); first | omega | (exfalso; omega) | exact ⟨by omega, by omega⟩ | (omega) | exact absurd trivial ‹¬ True›
        · intro c1 c2; (try simp only [Int.toNat_natCast] at c1 c2); first | omega | (exfalso; omega) | exact ⟨by omega, by omega⟩ | (omega) | exact absurd trivial ‹¬ True›
        · intro c1 c2; (try simp only [Int.toNat_natCast] at c1 c2); first | (exfalso; omega) | exact absurd trivial ‹¬ True› | (skip)
      | succ d ih =>
        intro i j7 e
        refine g_M_pour_118 (fun _ => by omega) (fun _ q => absurd q dir) (fun _ _ => by omega) (fun _ _ => by omega) (fun _ _ => ?_)
        refine g_M_pour_143 (by omega) (by omega) (by omega) (by omega) (by omega) (by omega) (by omega) (by omega) (by omega) ?_
        have e1 : (60 * x1 + x2 + (x5 - 1 - (i : Int))).toNat = (60 * x1 + x2).toNat + d := by omega
        have e2 : (60 * x3 + x4 + (x5 - 1 - (i : Int))).toNat = (60 * x3 + x4).toNat + d := by omega
        rw [e1, e2]
        have st := cpy_b (h := h) (k := 108) (sp := (60 * x1 + x2).toNat + d) (dp := (60 * x3 + x4).toNat + d) (i := i) (by omega)
        rw [Nat.add_assoc, Nat.add_assoc] at st
        rw [st]
        exact ih (i + 1) _ (by omega)
    have := key x5.toNat 0 j7 (by omega)
    rw [cpy_0] at this
    exact this
theorem A_pour {n : Nat} {h : HP} {x1 x2 x3 x4 x5 : Int} (hR : Rel n h) (r2 : in32 x2) (r4 : in32 x4) (r5 : in32 x5) : Agree n h i_C_pour i_M_pour [vr 0, vi x1, vi x2, vi x3, vi x4, vi x5] [vr 103, vi x1, vi x2, vi x3, vi x4, vi x5, vr 9999, vr 9999] := by
  have hT := hR.2.2.2.1
  unfold in32 at r2 r4 r5
  by_cases c0 : (0 ≤ x1 ∧ x1 ≤ 3) ∧ (0 ≤ x3 ∧ x3 ≤ 3) ∧ 0 ≤ x2 ∧ 0 ≤ x4 ∧ 0 ≤ x5
  · obtain ⟨c1, c3, c2, c4, c5⟩ := c0
    have t1 := RT_1 hT (t := x1) (by omega)
    have t3 := RT_1 hT (t := x3) (by omega)
    by_cases d1 : h 3 x1.toNat = -1 ∨ h 3 x3.toNat = -1
    · refine ag_act0 (v := vi 0) (st := 2) hR (fun Q k => ?_) (fun g Q e gk k => ?_)
      · refine g_C_pour_0 ?_ ?_ ?_ ?_ ?_ ?_ ?_ ?_ ?_ ?_ ?_ ?_ ?_ ?_ ?_ ?_
        all_goals (intros; first | exact k | omega | (exfalso; omega))
      · have g7 := gk 107 (by decide)
        have g6 := gk 106 (by decide)
        rw [← g7, ← g6] at t1 t3
        refine g_M_pour_0 ?_ ?_ ?_ ?_ ?_ ?_ ?_ ?_ ?_ ?_ ?_ ?_ ?_ ?_ ?_
        all_goals (intros; first | exact k | omega | (exfalso; omega))
    · by_cases d2 : h 3 x1.toNat = h 3 x3.toNat
      · by_cases d3 : x2 + x5 ≤ h 4 x1.toNat ∧ x4 + x5 ≤ h 4 x3.toNat
        · have q1 : (x1 * 60 + x2).toNat = (60 * x1 + x2).toNat := by omega
          have q3 : (x3 * 60 + x4).toNat = (60 * x3 + x4).toNat := by omega
          refine ag_tray (v := vi 1) (st := 0) (hc1 := cpy h 2 (60 * x1 + x2).toNat 2 (60 * x3 + x4).toNat x5.toNat) (fun g => cpy g 108 (60 * x1 + x2).toNat 108 (60 * x3 + x4).toNat x5.toNat) hR
            (fun k hk => by rw [cpy_wr, wr_ne (by omega)]) (fun g k hk => by rw [cpy_wr, wr_ne (by omega)]) ?_ (fun Q k => ?_) (fun g Q gk k => ?_)
          · intro t ht
            have f3 : (hs (cpy (hs (cpy h 2 (60 * x1 + x2).toNat 2 (60 * x3 + x4).toNat x5.toNat) 0 0 0) 108 (60 * x1 + x2).toNat 108 (60 * x3 + x4).toNat x5.toNat) 103 2 0) = fun k i => if k = 103 ∧ i = 2 then 0 else if k = 108 ∧ (60 * x3 + x4).toNat ≤ i ∧ i < (60 * x3 + x4).toNat + x5.toNat then h 108 ((60 * x1 + x2).toNat + (i - (60 * x3 + x4).toNat)) else if k = 0 ∧ i = 0 then 0 else if k = 2 ∧ (60 * x3 + x4).toNat ≤ i ∧ i < (60 * x3 + x4).toNat + x5.toNat then h 2 ((60 * x1 + x2).toNat + (i - (60 * x3 + x4).toNat)) else h k i := by
              funext k i
              simp only [hs, cpy]
              by_cases z : k = 103 ∧ i = 2
              · rw [if_pos z, if_pos z]
              · rw [if_neg z, if_neg z]
                by_cases z2 : k = 108 ∧ (60 * x3 + x4).toNat ≤ i ∧ i < (60 * x3 + x4).toNat + x5.toNat
                · rw [if_pos z2, if_pos z2, if_neg (by omega), if_neg (by omega)]
                · rw [if_neg z2, if_neg z2]
            rw [f3]
            rcases hT t ht with b | ⟨b1, b2, b3, b4, b5⟩
            · left; simp [b]
            · right
              refine ⟨by simpa using b1, by simpa using b2, by simpa using b3, by simpa using b4, fun p hp => ?_⟩
              have hp : (p : Int) < h 4 t := by simpa using hp
              have := b5 p hp
              simp
              by_cases z : 60 * x3 + x4 ≤ 60 * (t : Int) + (p : Int) ∧ 60 * t + p < (60 * x3 + x4).toNat + x5.toNat
              · rw [if_pos z, if_pos z]
                rcases hT x1.toNat (by omega) with b' | ⟨-, -, -, -, b'⟩
                · omega
                · have := b' (x2.toNat + (60 * t + p - (60 * x3 + x4).toNat)) (by omega)
                  have e : 60 * x1.toNat + (x2.toNat + (60 * t + p - (60 * x3 + x4).toNat)) = (60 * x1 + x2).toNat + (60 * t + p - (60 * x3 + x4).toNat) := by omega
                  rw [e] at this
                  exact this
              · rw [if_neg z, if_neg z]
                exact this
          · skip
            refine g_C_pour_0 ?_ ?_ ?_ ?_ ?_ ?_ ?_ ?_ ?_ ?_ ?_ ?_ ?_ ?_ ?_ ?_
            · intro c1; (try simp only [Int.toNat_natCast] at c1); first | (exfalso; omega) | exact absurd trivial ‹¬ True› | (skip)
            · intro c1 c2; (try simp only [Int.toNat_natCast] at c1 c2); first | (exfalso; omega) | exact absurd trivial ‹¬ True› | (skip)
            · intro c1 c2 c3; (try simp only [Int.toNat_natCast] at c1 c2 c3); first | (exfalso; omega) | exact absurd trivial ‹¬ True› | (skip)
            · intro c1 c2 c3 c4; (try simp only [Int.toNat_natCast] at c1 c2 c3 c4); first | (exfalso; omega) | exact absurd trivial ‹¬ True› | (skip)
            · intro c1 c2 c3 c4 c5; (try simp only [Int.toNat_natCast] at c1 c2 c3 c4 c5); first | omega | (exfalso; omega) | exact ⟨by omega, by omega⟩ | (omega) | exact absurd trivial ‹¬ True›
            · intro c1 c2 c3 c4 c5 c6; (try simp only [Int.toNat_natCast] at c1 c2 c3 c4 c5 c6); first | (exfalso; omega) | exact absurd trivial ‹¬ True› | (skip)
            · intro c1 c2 c3 c4 c5 c6; (try simp only [Int.toNat_natCast] at c1 c2 c3 c4 c5 c6); first | omega | (exfalso; omega) | exact ⟨by omega, by omega⟩ | (omega) | exact absurd trivial ‹¬ True›
            · intro c1 c2 c3 c4 c5 c6 c7 c8; (try simp only [Int.toNat_natCast] at c1 c2 c3 c4 c5 c6 c7 c8); first | omega | (exfalso; omega) | exact ⟨by omega, by omega⟩ | (omega) | exact absurd trivial ‹¬ True›
            · intro c1 c2 c3 c4 c5 c6 c7 c8; (try simp only [Int.toNat_natCast] at c1 c2 c3 c4 c5 c6 c7 c8); first | omega | (exfalso; omega) | exact ⟨by omega, by omega⟩ | (omega) | exact absurd trivial ‹¬ True›
            · intro c1 c2 c3 c4 c5 c6 c7 c8 c9; (try simp only [Int.toNat_natCast] at c1 c2 c3 c4 c5 c6 c7 c8 c9); first | (exfalso; omega) | exact absurd trivial ‹¬ True› | (skip)
            · intro c1 c2 c3 c4 c5 c6 c7 c8 c9; (try simp only [Int.toNat_natCast] at c1 c2 c3 c4 c5 c6 c7 c8 c9); first | omega | (exfalso; omega) | exact ⟨by omega, by omega⟩ | (omega) | exact absurd trivial ‹¬ True›
            · intro c1 c2 c3 c4 c5 c6 c7 c8 c9 c10; (try simp only [Int.toNat_natCast] at c1 c2 c3 c4 c5 c6 c7 c8 c9 c10)
              refine g_Ty_carry_0 (by omega) (by omega) (by omega) (by omega) (by omega) ?_
              rw [q1, q3]
              exact g_C_pour_130 k
            · intro c1 c2 c3 c4 c5 c6 c7 c8 c9 c10; (try simp only [Int.toNat_natCast] at c1 c2 c3 c4 c5 c6 c7 c8 c9 c10); first | (exfalso; omega) | exact absurd trivial ‹¬ True› | (skip)
            · intro c1 c2 c3 c4 c5 c6 c7 c8; (try simp only [Int.toNat_natCast] at c1 c2 c3 c4 c5 c6 c7 c8); first | (exfalso; omega) | exact absurd trivial ‹¬ True› | (skip)
            · intro c1 c2 c3 c4 c5 c6 c7; (try simp only [Int.toNat_natCast] at c1 c2 c3 c4 c5 c6 c7); first | (exfalso; omega) | exact absurd trivial ‹¬ True› | (skip)
            · intro c1 c2 c3 c4 c5; (try simp only [Int.toNat_natCast] at c1 c2 c3 c4 c5); first | (exfalso; omega) | exact absurd trivial ‹¬ True› | (skip)
          · have g7 := gk 107 (by decide)
            have g6 := gk 106 (by decide)
            rw [← g7, ← g6] at t1 t3
            refine g_M_pour_0 ?_ ?_ ?_ ?_ ?_ ?_ ?_ ?_ ?_ ?_ ?_ ?_ ?_ ?_ ?_
            · intro c1; (try simp only [Int.toNat_natCast] at c1); first | (exfalso; omega) | exact absurd trivial ‹¬ True› | (skip)
            · intro c1 c2; (try simp only [Int.toNat_natCast] at c1 c2); first | (exfalso; omega) | exact absurd trivial ‹¬ True› | (skip)
            · intro c1 c2 c3; (try simp only [Int.toNat_natCast] at c1 c2 c3); first | (exfalso; omega) | exact absurd trivial ‹¬ True› | (skip)
            · intro c1 c2 c3 c4; (try simp only [Int.toNat_natCast] at c1 c2 c3 c4); first | (exfalso; omega) | exact absurd trivial ‹¬ True› | (skip)
            · intro c1 c2 c3 c4 c5; (try simp only [Int.toNat_natCast] at c1 c2 c3 c4 c5); first | omega | (exfalso; omega) | exact ⟨by omega, by omega⟩ | (omega) | exact absurd trivial ‹¬ True›
            · intro c1 c2 c3 c4 c5 c6; (try simp only [Int.toNat_natCast] at c1 c2 c3 c4 c5 c6); first | (exfalso; omega) | exact absurd trivial ‹¬ True› | (skip)
            · intro c1 c2 c3 c4 c5 c6; (try simp only [Int.toNat_natCast] at c1 c2 c3 c4 c5 c6); first | omega | (exfalso; omega) | exact ⟨by omega, by omega⟩ | (omega) | exact absurd trivial ‹¬ True›
            · intro c1 c2 c3 c4 c5 c6 c7 c8; (try simp only [Int.toNat_natCast] at c1 c2 c3 c4 c5 c6 c7 c8); first | omega | (exfalso; omega) | exact ⟨by omega, by omega⟩ | (omega) | exact absurd trivial ‹¬ True›
            · intro c1 c2 c3 c4 c5 c6 c7 c8 c9; (try simp only [Int.toNat_natCast] at c1 c2 c3 c4 c5 c6 c7 c8 c9); first | (exfalso; omega) | exact absurd trivial ‹¬ True› | (skip)
            · intro c1 c2 c3 c4 c5 c6 c7 c8 c9; (try simp only [Int.toNat_natCast] at c1 c2 c3 c4 c5 c6 c7 c8 c9); first | omega | (exfalso; omega) | exact ⟨by omega, by omega⟩ | (omega) | exact absurd trivial ‹¬ True›
            · intro c1 c2 c3 c4 c5 c6 c7 c8 c9 c10; (try simp only [Int.toNat_natCast] at c1 c2 c3 c4 c5 c6 c7 c8 c9 c10); first | (exfalso; omega) | exact absurd trivial ‹¬ True› | (exact c_M_pour118 (by omega) (by omega) (by omega) (by omega) (by omega) (by omega) (by omega) _ k)
            · intro c1 c2 c3 c4 c5 c6 c7 c8 c9 c10; (try simp only [Int.toNat_natCast] at c1 c2 c3 c4 c5 c6 c7 c8 c9 c10); first | (exfalso; omega) | exact absurd trivial ‹¬ True› | (skip)
            · intro c1 c2 c3 c4 c5 c6 c7 c8; (try simp only [Int.toNat_natCast] at c1 c2 c3 c4 c5 c6 c7 c8); first | (exfalso; omega) | exact absurd trivial ‹¬ True› | (skip)
            · intro c1 c2 c3 c4 c5 c6 c7; (try simp only [Int.toNat_natCast] at c1 c2 c3 c4 c5 c6 c7); first | (exfalso; omega) | exact absurd trivial ‹¬ True› | (skip)
            · intro c1 c2 c3 c4 c5; (try simp only [Int.toNat_natCast] at c1 c2 c3 c4 c5); first | (exfalso; omega) | exact absurd trivial ‹¬ True› | (skip)
        · refine ag_act0 (v := vi 0) (st := 3) hR (fun Q k => ?_) (fun g Q e gk k => ?_)
          · refine g_C_pour_0 ?_ ?_ ?_ ?_ ?_ ?_ ?_ ?_ ?_ ?_ ?_ ?_ ?_ ?_ ?_ ?_
            all_goals (intros; first | exact k | omega | (exfalso; omega))
          · have g7 := gk 107 (by decide)
            have g6 := gk 106 (by decide)
            rw [← g7, ← g6] at t1 t3
            refine g_M_pour_0 ?_ ?_ ?_ ?_ ?_ ?_ ?_ ?_ ?_ ?_ ?_ ?_ ?_ ?_ ?_
            all_goals (intros; first | exact k | omega | (exfalso; omega))
      · refine ag_act0 (v := vi 0) (st := 8) hR (fun Q k => ?_) (fun g Q e gk k => ?_)
        · refine g_C_pour_0 ?_ ?_ ?_ ?_ ?_ ?_ ?_ ?_ ?_ ?_ ?_ ?_ ?_ ?_ ?_ ?_
          all_goals (intros; first | exact k | omega | (exfalso; omega))
        · have g7 := gk 107 (by decide)
          have g6 := gk 106 (by decide)
          rw [← g7, ← g6] at t1 t3
          refine g_M_pour_0 ?_ ?_ ?_ ?_ ?_ ?_ ?_ ?_ ?_ ?_ ?_ ?_ ?_ ?_ ?_
          all_goals (intros; first | exact k | omega | (exfalso; omega))
  · refine ag_act0 (v := vi 0) (st := 1) hR (fun Q k => ?_) (fun g Q e gk k => ?_)
    · refine g_C_pour_0 ?_ ?_ ?_ ?_ ?_ ?_ ?_ ?_ ?_ ?_ ?_ ?_ ?_ ?_ ?_ ?_
      all_goals (intros; first | exact k | omega | (exfalso; omega))
    · refine g_M_pour_0 ?_ ?_ ?_ ?_ ?_ ?_ ?_ ?_ ?_ ?_ ?_ ?_ ?_ ?_ ?_
      all_goals (intros; first | exact k | omega | (exfalso; omega))
