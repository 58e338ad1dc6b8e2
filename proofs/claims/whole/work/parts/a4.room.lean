theorem g_Ta_clear_0 {Q : PQ} {h : HP}  {t0 : Nat} (h_t0 : isT t0)
    (k1 : Q none (hs (hs (hs h t0 0 0) t0 1 0) t0 2 0)) :
    Wp true i_Ta_clear 0 [vr t0] [] h Q := by
  refine r_aload_n (v := t0) f_103_0 rfl (T_n h_t0) ?_
  refine r_iconst f_103_1 (by decide) ?_
  refine r_putz f_103_2 (T_k h_t0) (by decide) (by decide) ?_
  refine r_aload_n (v := t0) f_103_5 rfl (T_n h_t0) ?_
  refine r_iconst f_103_6 (by decide) ?_
  refine r_puti f_103_7 (T_k h_t0) (by decide) ?_
  refine r_aload_n (v := t0) f_103_10 rfl (T_n h_t0) ?_
  refine r_iconst f_103_11 (by decide) ?_
  refine r_puti f_103_12 (T_k h_t0) (by decide) ?_
  exact r_retv f_103_15 rfl k1

theorem g_C_room_0 {Q : PQ} {h : HP} {x1 : Int} 
    (k1 : (0 ≤ x1 ∧ x1 ≤ (h 5 2)) → Wp true i_To_begin 0 [vr 5, vi x1] [] h (fun r h' => Wp true i_C_room 29 [vr 0, vi x1, vr 9999] (r.toList ++ []) h' Q))
    (k2 : ¬ (0 ≤ x1 ∧ x1 ≤ (h 5 2)) → Q (some (vi (-1))) (hs h 0 0 1)) :
    Wp true i_C_room 0 [vr 0, vi x1, vr 9999] [] h Q := by
  refine r_iload_n (v := x1) f_150_0 rfl ?_
  refine r_iconst f_150_1 (by decide) ?_
  refine r_aload_n (v := 0) f_150_2 rfl (by decide) ?_
  refine r_getr (q := 5) f_150_3 rfl (by decide) (Or.inl rfl) rfl ?_
  refine r_geti (v := h 5 2) f_150_6 rfl (by decide) rfl ?_
  refine r_calls (as := [vi x1, vi 0, vi (h 5 2)]) (st' := []) (ls0 := [vi x1, vi 0, vi (h 5 2)]) f_150_9 (by decide) (by decide) rfl rfl (Nat.le_of_ble_eq_true rfl) (Nat.le_of_ble_eq_true rfl) rfl ?_
  refine c_C_within  ?_
  show Wp true i_C_room 12 [vr 0, vi x1, vr 9999] [vi (bi (0 ≤ x1 ∧ x1 ≤ (h 5 2)))] h Q
  refine r_br (t := 21) f_150_12 rfl cb_bt (fun c1 => ?_) (fun c1 => ?_)
  · refine r_aload_n (v := 0) f_150_21 rfl (by decide) ?_
    refine r_getr (q := 5) f_150_22 rfl (by decide) (Or.inl rfl) rfl ?_
    refine r_iload_n (v := x1) f_150_25 rfl ?_
    exact r_callv (as := [vr 5, vi x1]) (st' := []) (ls0 := [vr 5, vi x1]) f_150_26 (by decide) rfl rfl (Nat.le_of_ble_eq_true rfl) (Nat.le_of_ble_eq_true rfl) ⟨_, _, rfl, rfl⟩ rfl (k1 c1)
  · refine r_aload_n (v := 0) f_150_15 rfl (by decide) ?_
    refine r_iconst f_150_16 (by decide) ?_
    refine r_callv (as := [vr 0, vi 1]) (st' := []) (ls0 := [vr 0, vi 1]) f_150_17 (by decide) rfl rfl (Nat.le_of_ble_eq_true rfl) (Nat.le_of_ble_eq_true rfl) ⟨_, _, rfl, rfl⟩ rfl ?_
    refine c_C_refuse  ?_
    show Wp true i_C_room 20 [vr 0, vi x1, vr 9999] [vi (-1)] (hs h 0 0 1) Q
    exact r_reti f_150_20 rfl (k2 c1)

theorem g_C_room_29 {Q : PQ} {h : HP} {x1 : Int} 
    (k1 : Wp true i_Rr_readAll 0 [vr 8, vr 5, vr 18, vr 9999, vr 9999, vr 9999, vr 9999] [] h (fun r h' => Wp true i_C_room 44 [vr 0, vi x1, vr 9999] (r.toList ++ []) h' Q)) :
    Wp true i_C_room 29 [vr 0, vi x1, vr 9999] [] h Q := by
  refine r_aload_n (v := 0) f_150_29 rfl (by decide) ?_
  refine r_getr (q := 8) f_150_30 rfl (by decide) (Or.inl rfl) rfl ?_
  refine r_aload_n (v := 0) f_150_33 rfl (by decide) ?_
  refine r_getr (q := 5) f_150_34 rfl (by decide) (Or.inl rfl) rfl ?_
  refine r_aload_n (v := 0) f_150_37 rfl (by decide) ?_
  refine r_getr (q := 18) f_150_38 rfl (by decide) (Or.inl rfl) rfl ?_
  exact r_callv (as := [vr 8, vr 5, vr 18]) (st' := []) (ls0 := [vr 8, vr 5, vr 18, vr 9999, vr 9999, vr 9999, vr 9999]) f_150_41 (by decide) rfl rfl (Nat.le_of_ble_eq_true rfl) (Nat.le_of_ble_eq_true rfl) ⟨_, _, rfl, rfl⟩ rfl k1

theorem g_C_room_44 {Q : PQ} {h : HP} {x1 : Int} {s0 : Int} 
    (k1 : Wp true i_To_emptyTape 0 [vr 5] [] h (fun r h' => Wp true i_C_room 52 [vr 0, vi x1, vi s0] (r.toList ++ []) h' Q)) :
    Wp true i_C_room 44 [vr 0, vi x1, vr 9999] [vi s0] h Q := by
  refine r_istore_n (ls' := [vr 0, vi x1, vi s0]) f_150_44 (Nat.le_of_ble_eq_true rfl) rfl ?_
  refine r_aload_n (v := 0) f_150_45 rfl (by decide) ?_
  refine r_getr (q := 5) f_150_46 rfl (by decide) (Or.inl rfl) rfl ?_
  exact r_callv (as := [vr 5]) (st' := []) (ls0 := [vr 5]) f_150_49 (by decide) rfl rfl (Nat.le_of_ble_eq_true rfl) (Nat.le_of_ble_eq_true rfl) ⟨_, _, rfl, rfl⟩ rfl k1

theorem g_C_room_52 {Q : PQ} {h : HP} {x1 : Int} {x2 : Int} 
    (k1 : ¬ x2 = 0 → Wp true i_Fl_become 0 [vr 10, vr 18] [] h (fun r h' => Wp true i_C_room 74 [vr 0, vi x1, vi x2] (r.toList ++ []) h' Q))
    (k2 : x2 = 0 → Q (some (vi (-1))) (hs h 0 0 9)) :
    Wp true i_C_room 52 [vr 0, vi x1, vi x2] [] h Q := by
  refine r_iload_n (v := x2) f_150_52 rfl ?_
  refine r_br (t := 63) f_150_53 rfl cb_ne (fun c1 => ?_) (fun c1 => ?_)
  · refine r_aload_n (v := 0) f_150_63 rfl (by decide) ?_
    refine r_getr (q := 10) f_150_64 rfl (by decide) (Or.inl rfl) rfl ?_
    refine r_aload_n (v := 0) f_150_67 rfl (by decide) ?_
    refine r_getr (q := 18) f_150_68 rfl (by decide) (Or.inl rfl) rfl ?_
    exact r_callv (as := [vr 10, vr 18]) (st' := []) (ls0 := [vr 10, vr 18]) f_150_71 (by decide) rfl rfl (Nat.le_of_ble_eq_true rfl) (Nat.le_of_ble_eq_true rfl) ⟨_, _, rfl, rfl⟩ rfl (k1 c1)
  · have c1 := Decidable.not_not.mp c1
    refine r_aload_n (v := 0) f_150_56 rfl (by decide) ?_
    refine r_bipush f_150_57 (by decide) ?_
    refine r_callv (as := [vr 0, vi 9]) (st' := []) (ls0 := [vr 0, vi 9]) f_150_59 (by decide) rfl rfl (Nat.le_of_ble_eq_true rfl) (Nat.le_of_ble_eq_true rfl) ⟨_, _, rfl, rfl⟩ rfl ?_
    refine c_C_refuse  ?_
    show Wp true i_C_room 62 [vr 0, vi x1, vi x2] [vi (-1)] (hs h 0 0 9) Q
    exact r_reti f_150_62 rfl (k2 c1)

theorem g_C_room_74 {Q : PQ} {h : HP} {x1 : Int} {x2 : Int} 
    (k1 : Wp true i_Ta_clear 0 [vr 26] [] h (fun r h' => Wp true i_C_room 81 [vr 0, vi x1, vi x2] (r.toList ++ []) h' Q)) :
    Wp true i_C_room 74 [vr 0, vi x1, vi x2] [] h Q := by
  refine r_aload_n (v := 0) f_150_74 rfl (by decide) ?_
  refine r_getr (q := 26) f_150_75 rfl (by decide) (Or.inl rfl) rfl ?_
  exact r_callv (as := [vr 26]) (st' := []) (ls0 := [vr 26]) f_150_78 (by decide) rfl rfl (Nat.le_of_ble_eq_true rfl) (Nat.le_of_ble_eq_true rfl) ⟨_, _, rfl, rfl⟩ rfl k1

theorem g_C_room_81 {Q : PQ} {h : HP} {x1 : Int} {x2 : Int} 
    (k1 : Q (some (vi (h 10 3))) (hs h 0 0 0)) :
    Wp true i_C_room 81 [vr 0, vi x1, vi x2] [] h Q := by
  refine r_aload_n (v := 0) f_150_81 rfl (by decide) ?_
  refine r_aload_n (v := 0) f_150_82 rfl (by decide) ?_
  refine r_getr (q := 10) f_150_83 rfl (by decide) (Or.inl rfl) rfl ?_
  refine r_geti (v := h 10 3) f_150_86 rfl (by decide) rfl ?_
  refine r_callv (as := [vr 0, vi (h 10 3)]) (st' := []) (ls0 := [vr 0, vi (h 10 3)]) f_150_89 (by decide) rfl rfl (Nat.le_of_ble_eq_true rfl) (Nat.le_of_ble_eq_true rfl) ⟨_, _, rfl, rfl⟩ rfl ?_
  refine c_C_answer  ?_
  show Wp true i_C_room 92 [vr 0, vi x1, vi x2] [vi (h 10 3)] (hs h 0 0 0) Q
  exact r_reti f_150_92 rfl k1

theorem c_M_plain2 {Q : PQ} {h : HP} (k : Q none (hs (hs (wr h 104 2000 500 (fun _ => 0)) 104 2003 9) 104 2007 (-1))) : Wp true i_M_plain 0 [vr 103, vi 2000, vr 9999] [] h Q := by
  have lp : ∀ (d i : Nat), i + d = 500 → Wp true i_M_plain 2 [vr 103, vi 2000, vi (i : Int)] [] (wr h 104 2000 i (fun _ => 0)) Q := by
    intro d
    induction d with
    | zero =>
      intro i hi
      have : i = 500 := by omega
      subst this
      exact g_M_plain_2 (fun _ => by decide) (fun _ => by decide) (fun _ => by decide) (fun _ => by decide) (fun _ => k) (fun c => absurd (by decide) c) (fun c => absurd (by decide) c) (fun c => absurd (by decide) c) (fun c => absurd (by decide) c)
    | succ d ih =>
      intro i hi
      refine g_M_plain_2 (fun c => by omega) (fun c => by omega) (fun c => by omega) (fun c => by omega) (fun c => by omega) (fun _ => by omega) (fun _ => by omega) (fun _ => by omega) (fun _ => ?_)
      rw [show (2000 + (i : Int)).toNat = 2000 + i by omega]
      have e := wr_s (h := h) (k := 104) (a := 2000) (n := i) (T := fun _ => 0)
      have st := ih (i + 1) (by omega)
      rw [← e] at st
      exact st
  have := lp 500 0 rfl
  rw [wr_0] at this
  exact g_M_plain_0 this
theorem DM_clr {X : HP} {N : NT} : DM (hs (hs (wr X 104 2000 500 (fun _ => 0)) 104 2003 9) 104 2007 (-1)) rClr N := by
  obtain ⟨Y, eY⟩ : ∃ Y, Y = hs (hs (wr X 104 2000 500 (fun _ => 0)) 104 2003 9) 104 2007 (-1) := ⟨_, rfl⟩
  rw [← eY]
  have y : ∀ i, i < 500 → i ≠ 3 → i ≠ 7 → Y 104 (2000 + i) = 0 := fun i h1 h2 h3 => by
    rw [eY, hs_o (Or.inr (by omega)), hs_o (Or.inr (by omega)), wr_in (by omega)]
  have y3 : Y 104 (2000 + 3) = 9 := by rw [eY, hs_o (Or.inr (by omega))]; exact hs_s
  have y1 := y 1 (by decide) (by decide) (by decide)
  have y2 := y 2 (by decide) (by decide) (by decide)
  refine ⟨?_, fun i hi => ?_, by rw [eY]; exact hs_s⟩
  · funext k i
    simp only [rmM, rClr, y1, y2, y3]
    by_cases k0 : k = 0
    · subst k0
      by_cases i2 : i < 2
      · rw [if_pos rfl, if_pos i2, y i (by omega) (by omega) (by omega), if_neg (by omega)]
      · rw [if_pos rfl, if_neg i2]
        by_cases e2 : i = 2
        · rw [if_pos e2, if_pos ⟨rfl, e2⟩]
        · rw [if_neg e2, if_neg (show ¬ ((0 : Nat) = 0 ∧ i = 2) by omega)]
          by_cases e3 : i = 3
          · rw [if_pos e3]
          · rw [if_neg e3]
            by_cases i7 : i < 7
            · rw [if_pos i7, y i (by omega) e3 (by omega)]
            · rw [if_neg i7]
    · have n0 : ¬ (i : Int) < 0 := by omega
      simp [k0, n0]
  · have hi : (i : Int) < 0 := hi
    omega
/-- what a text leaves as it is in the reference -/
def RoM (h g : HP) : Prop := (∀ k, k ≠ 103 → k ≠ 104 → k ≠ 105 → k ≠ 110 → k ≠ 111 → g k = h k) ∧ (∀ i, 500 ≤ i → i < 2000 → g 104 i = h 104 i) ∧ (∀ i, 10 ≤ i → i < 40 → g 105 i = h 105 i) ∧ (∀ i, i ∈ [3, 4, 38, 39] → g 103 i = h 103 i) ∧ g 103 10 = 0
theorem m_room {Q : PQ} {h : HP} {B : Bt} {n : Nat} {N : NT} (n9 : n ≤ 900) (nt : (n : Int) ≤ h 103 10) (hb : ∀ p, p < n → h 109 p = B p ∧ -128 ≤ B p ∧ B p ≤ 127)
    (k : hd (sRoom B n 901 (rn isBk B (n - 0) 0, rClr, N, 0, 0)) (fun fk fp => ∀ g, RoM h g → (∀ i, i < 500 → g 104 i = h 104 i) → (∀ i, i < 10 → g 105 i = h 105 i) → g 103 16 = fk → g 103 17 = fp → g 103 2 = 9 → Q (some (vi (-1))) g)
      (fun o => ∀ g, RoM h g → rmM g 0 = o.1 → g 104 7 = -1 → (∀ i : Nat, (i : Int) < o.1 0 3 → g 105 i = nm256 (o.2 i)) → g 103 16 = 0 → g 103 17 = -1 → g 103 2 = 0 → Q (some (vi (o.1 0 3))) g)) :
    Wp true i_M_room 0 [vr 103, vi (n : Int), vr 9999, vr 9999] [] h Q := by
  refine g_M_room_0 (c_M_begins (B := B) n9 (by omega) nt hb (fun H S f1 f2 t10 t17 t18 => g_M_room_8 (fun _ => c_M_plain2 (g_M_room_24 ?_)) (fun z => absurd z (by decide))))
  have ro : ∀ g, FrM H g → RoM h g := by
    intro g F
    refine ⟨fun k k1 k2 k3 k4 k5 => (F.1 k k1 k2 k3 k5).trans (f2 k k1 k4), fun i i1 i2 => (F.2.1 i i2).trans (by rw [f2 104 (by decide) (by decide)]), fun i i1 i2 => (F.2.2.1 i i2).trans (by rw [f2 105 (by decide) (by decide)]), fun i hi => ?_, (F.2.2.2 10 (by decide)).trans t10⟩
    have a : ∀ i, i ∈ [3, 4, 38, 39] → i ∈ KPM ∧ i ∉ [10, 11, 12, 13, 14, 15, 17, 18, 19] := by decide
    exact (F.2.2.2 i (a i hi).1).trans (f1 i (a i hi).2)
  have lp : ∀ (d p : Nat) (a : RS) (Y u : HP), p + d = 901 → p ≤ a.1 → FXM H Y → SMo B n a.1 Y u → DM Y a.2.1 a.2.2.1 → WS a.2.1 a.2.2.1 → TBr Y a.2.1 a.2.2.2.1 a.2.2.2.2 → (a.2.2.2.1 = 0 ∨ a.2.2.2.1 = 1) → (a.2.2.2.2 = 0 ∨ a.2.2.2.2 = 1) →
      hd (sRoom B n d a) (fun fk fp => 1 ≤ fk → ∀ g, FaM H g fk fp → Wp true i_M_room 31 [vr 103, vi (n : Int), vi 0, vr 9999] [] g Q) (fun o => ∀ Y g, WS o.1 o.2 → FXM H Y → EM Y g → DM Y o.1 o.2 → Wp true i_M_room 50 [vr 103, vi (n : Int), vi 1, vr 9999] [] g Q) →
      Wp true i_M_room 31 [vr 103, vi (n : Int), vi 1, vr 9999] [] u Q := by
    intro d
    induction d with
    | zero =>
      intro p a Y u hp ha FY SY
      have := SY.2.2.1
      omega
    | succ d ih =>
      rintro p ⟨s, R, N, l, b⟩ Y u hp ha FY SY DY WY TY hl hb' kk
      have ha : p ≤ s := ha
      have SY : SMo B n s Y u := SY
      have DY : DM Y R N := DY
      have WY : WS R N := WY
      have TY : TBr Y R l b := TY
      have hl : l = 0 ∨ l = 1 := hl
      have hb' : b = 0 ∨ b = 1 := hb'
      have e12 : u 103 12 = kM (tK B n s) := SY.2.2.2.2.2.1
      have kc := kM_c (tK B n s)
      have tr := tK_rg (B := B) (n := n) (s := s)
      have t0 := tK_0 (B := B) (n := n) (s := s)
      rw [sRoom] at kk
      by_cases c : n ≤ s
      · rw [if_pos c] at kk
        have z := t0.mpr c
        have q := kk Y u WY FY SY.1 DY
        exact g_M_room_31 (fun z => absurd z (by decide)) (fun _ _ => q) (fun _ z => by omega)
      · rw [if_neg c] at kk
        have nz : ¬ tK B n s = 0 := fun z => c (t0.mp z)
        have kk := hd_and (hd_bd.mp kk) (sPart_b (B := B) (n := n) (s := s) (R := R) (N := N) (l := l) (b := b) (by omega) WY hl hb')
        refine g_M_room_31 (fun z => absurd z (by decide)) (fun _ z => by omega) (fun _ _ => ?_)
        refine c_M_roomPart FY SY DY WY TY hl hb' (hd_m kk (fun fk fp q g f => g_M_room_46 (q.1 q.2 g f)) (fun a q Y' g FY' SY' DY' TY' => g_M_room_46 ?_))
        exact ih (p + 1) a Y' g (by omega) (by have := q.2.1.1; omega) FY' SY' DY' q.2.2.1 (TY' q.2.2.2.2.2) q.2.2.2.1 q.2.2.2.2.1 q.1
  have X0 : SMo B n (rn isBk B (n - 0) 0) (hs (hs (hs (wr H 104 2000 500 (fun _ => 0)) 104 2003 9) 104 2007 (-1)) 103 20 0) (hs (hs (hs (wr H 104 2000 500 (fun _ => 0)) 104 2003 9) 104 2007 (-1)) 103 20 0) := by
    refine ⟨EM_r, MS_f S (fun i hi => ?_) ?_⟩
    · have a : ∀ i, i ∈ 11 :: TLM → i ≠ 20 := by decide
      rw [hs_o (Or.inr (a i hi)), hs_ne (by decide), hs_ne (by decide), wr_ne (by decide)]
    · rw [hs_ne (by decide), hs_ne (by decide), hs_ne (by decide), wr_ne (by decide)]
  have F0 : FXM H (hs (hs (hs (wr H 104 2000 500 (fun _ => 0)) 104 2003 9) 104 2007 (-1)) 103 20 0) := by
    have Fw : FrM H (wr H 104 2000 500 (fun _ => 0)) := ⟨fun k k1 k2 k3 k4 => wr_ne k2, fun i hi => wr_out (by omega), fun i hi => by rw [wr_ne (by decide)], fun i hi => by rw [wr_ne (by decide)]⟩
    refine ⟨FrM_3 (FrM_4 (FrM_4 Fw (by decide)) (by decide)) (by decide), ?_, ?_⟩
    · rw [hs_o (by decide), hs_ne (by decide), hs_ne (by decide), wr_ne (by decide)]; exact t18
    · rw [hs_o (by decide), hs_ne (by decide), hs_ne (by decide), wr_ne (by decide)]; exact t17
  have T0 : TBr (hs (hs (hs (wr H 104 2000 500 (fun _ => 0)) 104 2003 9) 104 2007 (-1)) 103 20 0) rClr 0 0 := by
    unfold TBr
    rw [hs_s, bI_0, bI_0, bI_0]
    exact ⟨by decide, by decide, by decide⟩
  refine lp 901 0 (rn isBk B (n - 0) 0, rClr, N, 0, 0) _ _ rfl (Nat.zero_le _) F0 X0 (DM_3 DM_clr) WS_clr T0 (Or.inl rfl) (Or.inl rfl) (hd_m (hd_and k (sRoom_b (B := B) (n := n) 901 (rn isBk B (n - 0) 0, rClr, N, 0, 0) WS_clr (Or.inl rfl) (Or.inl rfl))) (fun fk fp q f1' g F => ?_) (fun o q Y g W FY EY DY => ?_))
  · have q := q.1
    refine g_M_room_31 (fun _ => ?_) (fun z => absurd rfl z) (fun z => absurd rfl z)
    have e18 := F.2.1
    refine g_M_room_50 (fun _ => ?_) (fun z => by omega)
    refine g_M_taken_0 (fun z => by omega) (fun _ => g_M_room_127 ?_)
    have F2 := ro g F.1
    refine q _ ⟨fun k k1 k2 k3 k4 k5 => ?_, fun i i1 i2 => ?_, fun i i1 i2 => ?_, fun i hi => ?_, ?_⟩ (fun i hi => ?_) (fun i hi => ?_) ?_ ?_ ?_
    · rw [hs_ne k1, hs_ne k1]; exact F2.1 k k1 k2 k3 k4 k5
    · rw [hs_ne (by decide), hs_ne (by decide)]; exact F2.2.1 i i1 i2
    · rw [hs_ne (by decide), hs_ne (by decide)]; exact F2.2.2.1 i i1 i2
    · have a : ∀ i, i ∈ [3, 4, 38, 39] → i ≠ 2 ∧ i ≠ 16 := by decide
      rw [hs_o (Or.inr (a i hi).1), hs_o (Or.inr (a i hi).2)]; exact F2.2.2.2.1 i hi
    · rw [hs_o (by decide), hs_o (by decide)]; exact F2.2.2.2.2
    · rw [hs_ne (by decide), hs_ne (by decide), F.1.2.1 i (by omega), f2 104 (by decide) (by decide)]
    · rw [hs_ne (by decide), hs_ne (by decide), F.1.2.2.1 i (by omega), f2 105 (by decide) (by decide)]
    · rw [hs_o (by decide), hs_s]; exact e18
    · rw [hs_o (by decide), hs_o (by decide)]; exact F.2.2
    · exact hs_s
  · have q := q.1
    have w := W.1.1
    have e18 : g 103 18 = 0 := by rw [EY.2 18 (by decide)]; exact FY.2.1
    have e17 : g 103 17 = -1 := by rw [EY.2 17 (by decide)]; exact FY.2.2
    have Fg : FrM H g := by
      have kp : ∀ i, i ∈ KPM → i ∉ TLM := by decide
      exact ⟨fun k k1 k2 k3 k4 => (EY.1 k k1).trans (FY.1.1 k k1 k2 k3 k4), fun i hi => by rw [EY.1 104 (by decide)]; exact FY.1.2.1 i hi, fun i hi => by rw [EY.1 105 (by decide)]; exact FY.1.2.2.1 i hi, fun i hi => (EY.2 i (kp i hi)).trans (FY.1.2.2.2 i hi)⟩
    have F2 := ro g Fg
    have lp2 : ∀ (d i : Nat), i + d = 10 → Wp true i_M_room 90 [vr 103, vi (n : Int), vi 1, vi (i : Int)] [] (wr (wr g 104 0 500 (fun j => g 104 (2000 + j))) 105 0 i (fun j => g 105 (40 + j))) Q := by
      intro d
      induction d with
      | zero =>
        intro i hi
        have : i = 10 := by omega
        subst this
        obtain ⟨v, ev⟩ : ∃ v, v = wr (wr g 104 0 500 (fun j => g 104 (2000 + j))) 105 0 10 (fun j => g 105 (40 + j)) := ⟨_, rfl⟩
        have v3 : v 103 = g 103 := by rw [ev, wr_ne (by decide), wr_ne (by decide)]
        have v4 : ∀ i, i < 500 → v 104 (0 + i) = g 104 (2000 + i) := fun i hi => by rw [ev, wr_ne (by decide), wr_in (by omega)]; congr 1; omega
        have v5 : ∀ i, i < 10 → v 105 i = g 105 (40 + i) := fun i hi => by rw [ev, wr_in (by omega)]; congr 1
        have eD : rmM g 2000 = o.1 := by rw [← DY.1]; exact rmM_congr (EY.1 104 (by decide))
        have eR : rmM v 0 = o.1 := by
          rw [← eD]
          exact rmM_bec v4 (by rw [eD]; exact W.1)
        have v2 : v 104 2 = o.1 0 3 := by rw [← eR]; rfl
        rw [← ev]
        refine g_M_room_90 (fun _ => ?_) (fun c => absurd (by decide) c) (fun c => absurd (by decide) c) (fun c => absurd (by decide) c) (fun c => absurd (by decide) c) (fun c => absurd (by decide) c)
        have w18 : v 103 18 = 0 := by rw [v3]; exact e18
        refine g_M_taken_0 (fun _ => g_M_room_127 ?_) (fun z => by omega)
        rw [v2, w18]
        refine q _ ⟨fun k k1 k2 k3 k4 k5 => ?_, fun i i1 i2 => ?_, fun i i1 i2 => ?_, fun i hi => ?_, ?_⟩ ?_ ?_ (fun i hi => ?_) ?_ ?_ ?_
        · rw [hs_ne k1, hs_ne k1, ev, wr_ne k3, wr_ne k2]; exact F2.1 k k1 k2 k3 k4 k5
        · rw [hs_ne (by decide), hs_ne (by decide), ev, wr_ne (by decide), wr_out (by omega)]; exact F2.2.1 i i1 i2
        · rw [hs_ne (by decide), hs_ne (by decide), ev, wr_out (by omega), wr_ne (by decide)]; exact F2.2.2.1 i i1 i2
        · have a : ∀ i, i ∈ [3, 4, 38, 39] → i ≠ 2 ∧ i ≠ 16 := by decide
          rw [hs_o (Or.inr (a i hi).1), hs_o (Or.inr (a i hi).2), v3]; exact F2.2.2.2.1 i hi
        · rw [hs_o (by decide), hs_o (by decide), v3]; exact F2.2.2.2.2
        · rw [← eR]; exact rmM_congr ((hs_ne (by decide)).trans (hs_ne (by decide)))
        · rw [hs_ne (by decide), hs_ne (by decide)]
          have := v4 7 (by decide)
          rw [Nat.zero_add] at this
          rw [this, EY.1 104 (by decide)]; exact DY.2.2
        · rw [hs_ne (by decide), hs_ne (by decide), v5 i (by omega), EY.1 105 (by decide)]; exact DY.2.1 i hi
        · rw [hs_o (by decide), hs_s]
        · rw [hs_o (by decide), hs_o (by decide), v3]; exact e17
        · exact hs_s
      | succ d ih =>
        intro i hi
        refine g_M_room_90 (fun c => by omega) (fun _ => by omega) (fun _ => by omega) (fun _ => by omega) (fun _ => by omega) (fun _ => ?_)
        rw [Int.toNat_natCast, show (40 + (i : Int)).toNat = 40 + i by omega, wr_out (k' := 105) (i := 40 + i) (by omega), wr_ne (k' := 105) (by decide)]
        have e := wr_s (h := wr g 104 0 500 (fun j => g 104 (2000 + j))) (k := 105) (a := 0) (n := i) (T := fun j => g 105 (40 + j))
        have st := ih (i + 1) (by omega)
        rw [← e, Nat.zero_add] at st
        exact st
    have lp1 : ∀ (d i : Nat), i + d = 500 → Wp true i_M_room 59 [vr 103, vi (n : Int), vi 1, vi (i : Int)] [] (wr g 104 0 i (fun j => g 104 (2000 + j))) Q := by
      intro d
      induction d with
      | zero =>
        intro i hi
        have : i = 500 := by omega
        subst this
        have z := lp2 10 0 rfl
        rw [wr_0] at z
        exact g_M_room_59 (fun _ => z) (fun c => absurd (by decide) c) (fun c => absurd (by decide) c) (fun c => absurd (by decide) c) (fun c => absurd (by decide) c) (fun c => absurd (by decide) c)
      | succ d ih =>
        intro i hi
        refine g_M_room_59 (fun c => by omega) (fun _ => by omega) (fun _ => by omega) (fun _ => by omega) (fun _ => by omega) (fun _ => ?_)
        rw [Int.toNat_natCast, show (2000 + (i : Int)).toNat = 2000 + i by omega, wr_out (k' := 104) (i := 2000 + i) (by omega)]
        have e := wr_s (h := g) (k := 104) (a := 0) (n := i) (T := fun j => g 104 (2000 + j))
        have st := ih (i + 1) (by omega)
        rw [← e, Nat.zero_add] at st
        exact st
    have z := lp1 500 0 rfl
    rw [wr_0] at z
    exact g_M_room_50 (fun z => absurd e18 z) (fun _ => z)
/-- what a text leaves as it is in the class -/
def RoC (h g : HP) (st fk fp : Int) : Prop := (∀ k, k ≠ 0 → k ≠ 5 → ¬ scC k → ¬ (10 ≤ k ∧ k < 18) → ¬ (26 ≤ k ∧ k < 32) → g k = h k) ∧ (∀ i, i ≠ 0 → g 0 i = h 0 i) ∧ g 0 0 = st ∧ g 5 2 = 0 ∧ g 5 3 = fk ∧ g 5 4 = fp
theorem cl_room {Q : PQ} {h : HP} {B : Bt} {n : Nat} {N : NT} (n9 : n ≤ 900) (nt : (n : Int) ≤ h 5 2) (hb : ∀ p, p < n → h 6 p = B p) (hk : ∀ i, i < 22 → h 7 i = kwC.getD i 0)
    (k : hd (sRoom B n 901 (rn isBk B (n - 0) 0, rClr, N, 0, 0)) (fun fk fp => ∀ g, RoC h g 9 fk fp → (∀ k, 10 ≤ k → k < 18 → g k = h k) → (∀ k, 26 ≤ k → k < 32 → g k = h k) → Q (some (vi (-1))) g)
      (fun o => ∀ g, RoC h g 0 0 (-1) → rmC g 10 = o.1 → (∀ i : Nat, (i : Int) < o.1 0 3 → g 13 i = nm32 (o.2 i)) → g 26 0 = 0 → g 26 2 = 0 → Q (some (vi (o.1 0 3))) g)) :
    Wp true i_C_room 0 [vr 0, vi (n : Int), vr 9999] [] h Q := by
  refine g_C_room_0 (fun _ => c_To_begin (B := B) n9 hb hk (fun H S o h3 h4 => g_C_room_29 ?_)) (fun z => absurd ⟨by omega, nt⟩ z)
  refine c_Rr_readAll (N := N) S (hd_m (hd_and k (sRoom_b (B := B) (n := n) 901 (rn isBk B (n - 0) 0, rClr, N, 0, 0) WS_clr (Or.inl rfl) (Or.inl rfl))) (fun fk fp q g f => ?_) (fun o' q Y g FY EY DY => ?_))
  · refine g_C_room_44 (g_To_emptyTape_0 (g_C_room_52 (fun z => absurd rfl z) (fun _ => ?_)))
    have a : ∀ k, k ≠ 0 → k ≠ 5 → ¬ scC k → (hs (hs g 5 2 0) 0 0 9) k = h k := fun k k0 k5 ks' => by
      rw [hs_ne k0, hs_ne k5, f.1 k k5 ks', o.1 k k5]
    refine q.1 _ ⟨fun k k0 k5 ks' _ _ => a k k0 k5 ks', fun i hi => ?_, hs_s, ?_, ?_, ?_⟩ (fun k k1 k2 => a k (by omega) (by omega) (by unfold scC; omega)) (fun k k1 k2 => a k (by omega) (by omega) (by unfold scC; omega))
    · rw [hs_o (Or.inr hi), hs_ne (by decide), f.1 0 (by decide) (by unfold scC; omega), o.1 0 (by decide)]
    · rw [hs_ne (by decide), hs_s]
    · rw [hs_ne (by decide), hs_o (by decide)]; exact f.2.2.1
    · rw [hs_ne (by decide), hs_o (by decide)]; exact f.2.2.2
  · have W := q.2
    have q := q.1
    have w := W.1.1
    refine g_C_room_44 (g_To_emptyTape_0 (g_C_room_52 (fun _ => ?_) (fun z => absurd z (by decide))))
    refine c_Fl_become isF_10 isF_18 (by decide) (fun u b => g_C_room_74 (g_Ta_clear_0 isT_26 (g_C_room_81 ?_)))
    have e18 : rmC (hs g 5 2 0) 18 = o'.1 := by
      rw [← DY.1, ← rmC_E EY]
      exact rmC_congr (fun i => by rw [hs_ne (by decide)]) (hs_ne (by decide)) (hs_ne (by decide)) (hs_ne (by decide)) (hs_ne (by decide)) (hs_ne (by decide)) (hs_ne (by decide))
    have eu : rmC u 10 = o'.1 := by
      rw [← e18]
      exact rmC_bec ⟨b.1, b.2.1⟩ (by rw [e18]; exact W.1)
    obtain ⟨v, ev⟩ : ∃ v, v = hs (hs (hs u 26 0 0) 26 1 0) 26 2 0 := ⟨_, rfl⟩
    rw [← ev]
    have vk : ∀ k, k ≠ 26 → v k = u k := fun k hk => by rw [ev, hs_ne hk, hs_ne hk, hs_ne hk]
    have e10 : rmC v 10 = o'.1 := by
      rw [← eu]
      exact rmC_congr (fun i => by rw [vk 10 (by decide)]) (vk _ (by decide)) (vk _ (by decide)) (vk _ (by decide)) (vk _ (by decide)) (vk _ (by decide)) (vk _ (by decide))
    have v3 : v 10 3 = o'.1 0 3 := by rw [← e10]; rfl
    rw [v3]
    have gk : ∀ k, k ≠ 0 → k ≠ 5 → ¬ scC k → ¬ (10 ≤ k ∧ k < 18) → k ≠ 26 → v k = h k := fun k k0 k5 ks' k10 k26 => by
      rw [vk k k26, b.2.2 k (by omega), hs_ne k5, EY.1 k k5, FY k ks', o.1 k k5]
    have v5 : v 5 = (hs g 5 2 0) 5 := by rw [vk 5 (by decide), b.2.2 5 (by decide)]
    refine q _ ⟨fun k k0 k5 ks' k10 k26 => ?_, fun i hi => ?_, hs_s, ?_, ?_, ?_⟩ ?_ (fun i hi => ?_) ?_ ?_
    · rw [hs_ne k0]; exact gk k k0 k5 ks' k10 (by omega)
    · rw [hs_o (Or.inr hi), vk 0 (by decide), b.2.2 0 (by decide), hs_ne (by decide), EY.1 0 (by decide), FY 0 (by unfold scC; omega), o.1 0 (by decide)]
    · rw [hs_ne (by decide), v5, hs_s]
    · rw [hs_ne (by decide), v5, hs_o (by decide), EY.2 3 (by decide), FY 5 sc5]; exact h3
    · rw [hs_ne (by decide), v5, hs_o (by decide), EY.2 4 (by decide), FY 5 sc5]; exact h4
    · rw [← e10]
      exact rmC_congr (fun i => by rw [hs_ne (by decide)]) (hs_ne (by decide)) (hs_ne (by decide)) (hs_ne (by decide)) (hs_ne (by decide)) (hs_ne (by decide)) (hs_ne (by decide))
    · rw [hs_ne (by decide), vk 13 (by decide)]
      have := b.2.1 3 i (by decide) (by decide) (by simp; omega)
      have e : u 13 i = (hs g 5 2 0) 21 i := this
      rw [e, hs_ne (by decide), EY.1 21 (by decide)]; exact DY.2.1 i hi
    · rw [hs_ne (by decide), ev, hs_o (by decide), hs_o (by decide), hs_s]
    · rw [hs_ne (by decide), ev, hs_s]
theorem A_room {n : Nat} {h : HP} {x1 : Int} (hR : Rel n h) : Agree n h i_C_room i_M_room [vr 0, vi x1, vr 9999] [vr 103, vi x1, vr 9999, vr 9999] := by
  have Tp := hR.2.2.2.2.1
  have t1 := Tp.2.1
  have t2 := Tp.2.2.1
  by_cases c : 0 ≤ x1 ∧ x1 ≤ h 5 2
  · obtain ⟨m, rfl⟩ : ∃ m : Nat, x1 = m := ⟨x1.toNat, by omega⟩
    obtain ⟨B, eB⟩ : ∃ B : Bt, B = fun p => h 6 p := ⟨_, rfl⟩
    have hb : ∀ p, p < m → h 6 p = B p := fun p _ => by rw [eB]
    obtain ⟨b0, b1, b2, b3, b4, b5, b6, b7⟩ := hR
    rcases ho : sRoom B m 901 (rn isBk B (m - 0) 0, rClr, (fun _ => []), 0, 0) with ⟨fk, fp⟩ | o
    · refine ⟨vi (-1), fun h1 => RoC h h1 9 fk fp ∧ (∀ k, 10 ≤ k → k < 18 → h1 k = h k) ∧ (∀ k, 26 ≤ k → k < 32 → h1 k = h k), fun h1 e => ⟨e.1.1 1000 (by decide) (by decide) (by unfold scC; omega) (by decide) (by decide), e.1.1 1001 (by decide) (by decide) (by unfold scC; omega) (by decide) (by decide)⟩, fun Q k => ?_, fun h1 Q e k => ?_⟩
      · refine cl_room (B := B) (N := fun _ => []) (by omega) c.2 hb Tp.1 ?_
        rw [ho]
        exact fun g r g1 g2 => k g ⟨r, g1, g2⟩
      · obtain ⟨r, g1, g2⟩ := e
        have mk : ∀ k, 103 ≤ k → h1 k = h k := fun k hk => r.1 k (by omega) (by omega) (by unfold scC; omega) (by omega) (by omega)
        refine m_room (B := B) (N := fun _ => []) (by omega) (by rw [mk 103 (by decide)]; omega) (fun p hp => ?_) ?_
        · have q := Tp.2.2.2.1 p (by omega)
          rw [mk 109 (by decide), ← q.1, eB]
          exact ⟨rfl, q.2⟩
        · rw [ho]
          intro g M a4 a5 c16 c17 c2
          have gk : ∀ k, k ≠ 0 → k ≠ 5 → k < 103 → ¬ scC k → g k = h k := fun k k0 k5 k3 ks' => by
            rw [M.1 k (by omega) (by omega) (by omega) (by omega) (by omega)]
            by_cases z1 : 10 ≤ k ∧ k < 18
            · exact g1 k z1.1 z1.2
            · by_cases z2 : 26 ≤ k ∧ k < 32
              · exact g2 k z2.1 z2.2
              · exact r.1 k k0 k5 ks' z1 z2
          have gm : ∀ k, 106 ≤ k → k ≠ 110 → k ≠ 111 → g k = h k := fun k k1 k2 k3 => by rw [M.1 k (by omega) (by omega) (by omega) k2 k3, mk k (by omega)]
          have g0 : g 0 = h1 0 := M.1 0 (by decide) (by decide) (by decide) (by decide) (by decide)
          have g5 : g 5 = h1 5 := M.1 5 (by decide) (by decide) (by decide) (by decide) (by decide)
          have a4' : ∀ i, i < 2000 → g 104 i = h 104 i := fun i hi => by
            by_cases z : i < 500
            · rw [a4 i z, mk 104 (by decide)]
            · rw [M.2.1 i (by omega) hi, mk 104 (by decide)]
          have a5' : ∀ i, i < 40 → g 105 i = h 105 i := fun i hi => by
            by_cases z : i < 10
            · rw [a5 i z, mk 105 (by decide)]
            · rw [M.2.2.1 i (by omega) hi, mk 105 (by decide)]
          refine k g ⟨?_, ?_, ?_, ?_, ?_, ?_, ?_, ?_⟩ ?_ ?_
          · rw [g0, r.2.2.1, c2]
          · rw [g0, r.2.1 1 (by decide), M.2.2.2.1 3 (by decide), mk 103 (by decide)]; exact b1
          · rw [g0, r.2.1 2 (by decide), M.2.2.2.1 4 (by decide), mk 103 (by decide)]; exact b2
          · refine RTray_c b3 (fun k hk => ?_)
            by_cases z : k < 103
            · exact gk k (by omega) (by omega) z (by unfold scC; omega)
            · exact gm k (by omega) (by omega) (by omega)
          · refine ⟨?_, ?_, ?_, fun p hp => ?_, ?_, ?_⟩
            · rw [gk 7 (by decide) (by decide) (by decide) (by unfold scC; omega)]; exact Tp.1
            · rw [g5, r.2.2.2.1, M.2.2.2.2]
            · rw [g5, r.2.2.2.1]; omega
            · rw [g5, r.2.2.2.1] at hp; omega
            · rw [g5, r.2.2.2.2.1, c16]
            · rw [g5, r.2.2.2.2.2, c17]
          · exact Slot_off b5 (by omega) (fun k k1 k2 => gk k (by omega) (by omega) (by omega) (by unfold scC; omega)) (fun k k1 k2 => gk k (by omega) (by omega) (by omega) (by unfold scC; omega)) (fun i i1 i2 => a4' i (by omega)) (fun i i1 i2 => a5' i (by omega))
          · exact RMarks_c b6 (by omega) (by rw [g0, r.2.1 13 (by decide)]) (by rw [M.2.2.2.1 39 (by decide), mk 103 (by decide)]) (fun k k1 k2 => gk k (by omega) (by omega) (by omega) (by unfold scC; omega)) (fun i i1 i2 => a4' i i2) (fun i i1 i2 => a5' i i2)
          · exact RLived_c b7 (by rw [gk 99 (by decide) (by decide) (by decide) (by unfold scC; omega)]) (by rw [M.2.2.2.1 38 (by decide), mk 103 (by decide)]) (fun k hk => by
              rcases hk with rfl | rfl
              · exact gk 102 (by decide) (by decide) (by decide) (by unfold scC; omega)
              · exact gm 122 (by decide) (by decide) (by decide))
          · rw [gm 1000 (by decide) (by decide) (by decide)]
          · rw [gm 1001 (by decide) (by decide) (by decide)]
    · have W : WS o.1 o.2 := by
        have := sRoom_b (B := B) (n := m) 901 (rn isBk B (m - 0) 0, rClr, (fun _ => []), 0, 0) WS_clr (Or.inl rfl) (Or.inl rfl)
        rw [ho] at this
        exact this
      refine ⟨vi (o.1 0 3), fun h1 => RoC h h1 0 0 (-1) ∧ rmC h1 10 = o.1 ∧ (∀ i : Nat, (i : Int) < o.1 0 3 → h1 13 i = nm32 (o.2 i)) ∧ h1 26 0 = 0 ∧ h1 26 2 = 0, fun h1 e => ⟨e.1.1 1000 (by decide) (by decide) (by unfold scC; omega) (by decide) (by decide), e.1.1 1001 (by decide) (by decide) (by unfold scC; omega) (by decide) (by decide)⟩, fun Q k => ?_, fun h1 Q e k => ?_⟩
      · refine cl_room (B := B) (N := fun _ => []) (by omega) c.2 hb Tp.1 ?_
        rw [ho]
        exact fun g r g1 g2 g3 g4 => k g ⟨r, g1, g2, g3, g4⟩
      · obtain ⟨r, g1, g2, g3, g4⟩ := e
        have mk : ∀ k, 103 ≤ k → h1 k = h k := fun k hk => r.1 k (by omega) (by omega) (by unfold scC; omega) (by omega) (by omega)
        refine m_room (B := B) (N := fun _ => []) (by omega) (by rw [mk 103 (by decide)]; omega) (fun p hp => ?_) ?_
        · have q := Tp.2.2.2.1 p (by omega)
          rw [mk 109 (by decide), ← q.1, eB]
          exact ⟨rfl, q.2⟩
        · rw [ho]
          intro g M a0 a7 a5 c16 c17 c2
          have gh : ∀ k, k < 103 → g k = h1 k := fun k hk => M.1 k (by omega) (by omega) (by omega) (by omega) (by omega)
          have gk : ∀ k, k ≠ 0 → k ≠ 5 → k < 103 → ¬ scC k → ¬ (10 ≤ k ∧ k < 18) → ¬ (26 ≤ k ∧ k < 32) → g k = h k := fun k k0 k5 k3 ks' z1 z2 => (gh k k3).trans (r.1 k k0 k5 ks' z1 z2)
          have gm : ∀ k, 106 ≤ k → k ≠ 110 → k ≠ 111 → g k = h k := fun k k1 k2 k3 => by rw [M.1 k (by omega) (by omega) (by omega) k2 k3, mk k (by omega)]
          have a4' : ∀ i, 500 ≤ i → i < 2000 → g 104 i = h 104 i := fun i i1 hi => by rw [M.2.1 i i1 hi, mk 104 (by decide)]
          have a5' : ∀ i, 10 ≤ i → i < 40 → g 105 i = h 105 i := fun i i1 hi => by rw [M.2.2.1 i i1 hi, mk 105 (by decide)]
          have eC : rmC g 10 = o.1 := by
            rw [← g1]
            exact rmC_congr (fun i => by rw [gh 10 (by decide)]) (gh _ (by decide)) (gh _ (by decide)) (gh _ (by decide)) (gh _ (by decide)) (gh _ (by decide)) (gh _ (by decide))
          have dd := cdim eC
          refine k g ⟨?_, ?_, ?_, ?_, ?_, ⟨?_, ?_, ?_, ?_, ?_, fun i hi => ?_, Or.inl ⟨?_, a7, ?_, ?_⟩⟩, ?_, ?_⟩ ?_ ?_
          · rw [gh 0 (by decide), r.2.2.1, c2]
          · rw [gh 0 (by decide), r.2.1 1 (by decide), M.2.2.2.1 3 (by decide), mk 103 (by decide)]; exact b1
          · rw [gh 0 (by decide), r.2.1 2 (by decide), M.2.2.2.1 4 (by decide), mk 103 (by decide)]; exact b2
          · refine RTray_c b3 (fun k hk => ?_)
            by_cases z : k < 103
            · exact gk k (by omega) (by omega) z (by unfold scC; omega) (by omega) (by omega)
            · exact gm k (by omega) (by omega) (by omega)
          · refine ⟨?_, ?_, ?_, fun p hp => ?_, ?_, ?_⟩
            · rw [gk 7 (by decide) (by decide) (by decide) (by unfold scC; omega) (by decide) (by decide)]; exact Tp.1
            · rw [gh 5 (by decide), r.2.2.2.1, M.2.2.2.2]
            · rw [gh 5 (by decide), r.2.2.2.1]; omega
            · rw [gh 5 (by decide), r.2.2.2.1] at hp; omega
            · rw [gh 5 (by decide), r.2.2.2.2.1, c16]
            · rw [gh 5 (by decide), r.2.2.2.2.2, c17]
          · rw [eC, a0]
          · rw [eC]; exact W.1
          · have := W.2.2.1; omega
          · have := W.2.2.2.1; omega
          · have := W.2.2.2.2; omega
          · have hi : (i : Int) < o.1 0 3 := by rw [dd.2.2.2.1] at hi; exact hi
            have ok := W.2.1 i hi
            refine ⟨o.2 i, ok.1, ok.2.1, ok.2.2, ?_, ?_⟩
            · show g 13 i = _
              rw [gh 13 (by decide)]; exact g2 i hi
            · rw [Nat.zero_add]; exact a5 i hi
          · rw [gh 26 (by decide)]; exact g3
          · rw [gh 26 (by decide), g4]; decide
          · rw [gh 26 (by decide), g4]; decide
          · exact RMarks_c b6 (by omega) (by rw [gh 0 (by decide), r.2.1 13 (by decide)]) (by rw [M.2.2.2.1 39 (by decide), mk 103 (by decide)]) (fun k k1 k2 => gk k (by omega) (by omega) (by omega) (by unfold scC; omega) (by omega) (by omega)) a4' a5'
          · exact RLived_c b7 (by rw [gk 99 (by decide) (by decide) (by decide) (by unfold scC; omega) (by decide) (by decide)]) (by rw [M.2.2.2.1 38 (by decide), mk 103 (by decide)]) (fun k hk => by
              rcases hk with rfl | rfl
              · exact gk 102 (by decide) (by decide) (by decide) (by unfold scC; omega) (by decide) (by decide)
              · exact gm 122 (by decide) (by decide) (by decide))
          · rw [gm 1000 (by decide) (by decide) (by decide)]
          · rw [gm 1001 (by decide) (by decide) (by decide)]
  · refine ag_act0 (v := vi (-1)) (st := 1) hR (fun Q k => ?_) (fun g Q e gk k => ?_)
    · exact g_C_room_0 (fun q => absurd q c) (fun _ => k)
    · have y : g 103 10 = h 5 2 := by rw [gk 103 (by decide)]; omega
      have en : Wp true i_M_room 8 [vr 103, vi x1, vr 9999, vr 9999] [vi 0] g Q := g_M_room_8 (fun z => absurd rfl z) (fun _ => k)
      exact g_M_room_0 (g_M_begins_0 (fun _ => en) (fun _ _ => en) (fun q1 q2 _ => by omega) (fun _ _ _ => en))
