theorem g_M_strait_0 {Q : PQ} {h : HP} {x1 : Int} 
    (k1 : (x1 = 0 ∨ x1 = 1) → Wp true i_M_laysIslands 0 [vr 103, vi x1, vi (-1), vr 9999, vr 9999, vr 9999, vr 9999, vr 9999, vr 9999] [] h (fun r h' => Wp true i_M_strait 19 [vr 103, vi x1, vr 9999, vr 9999, vr 9999, vr 9999] (r.toList ++ []) h' Q))
    (k2 : ¬ (x1 = 0 ∨ x1 = 1) → Q (some (vi (-1))) (hs h 103 2 1)) :
    Wp true i_M_strait 0 [vr 103, vi x1, vr 9999, vr 9999, vr 9999, vr 9999] [] h Q := by
  refine r_iload_n (v := x1) f_330_0 rfl ?_
  refine r_calls (as := [vi x1]) (st' := []) (ls0 := [vi x1]) f_330_1 (by decide) (by decide) rfl rfl (Nat.le_of_ble_eq_true rfl) (Nat.le_of_ble_eq_true rfl) rfl ?_
  refine c_M_isLand  ?_
  show Wp true i_M_strait 4 [vr 103, vi x1, vr 9999, vr 9999, vr 9999, vr 9999] [vi (bi (x1 = 0 ∨ x1 = 1))] h Q
  refine r_br (t := 13) f_330_4 rfl cb_bt (fun c1 => ?_) (fun c1 => ?_)
  · refine r_aload_n (v := 103) f_330_13 rfl (by decide) ?_
    refine r_iload_n (v := x1) f_330_14 rfl ?_
    refine r_iconst f_330_15 (by decide) ?_
    exact r_callv (as := [vr 103, vi x1, vi (-1)]) (st' := []) (ls0 := [vr 103, vi x1, vi (-1), vr 9999, vr 9999, vr 9999, vr 9999, vr 9999, vr 9999]) f_330_16 (by decide) rfl rfl (Nat.le_of_ble_eq_true rfl) (Nat.le_of_ble_eq_true rfl) ⟨_, _, rfl, rfl⟩ rfl (k1 c1)
  · refine r_aload_n (v := 103) f_330_7 rfl (by decide) ?_
    refine r_iconst f_330_8 (by decide) ?_
    refine r_callv (as := [vr 103, vi 1]) (st' := []) (ls0 := [vr 103, vi 1]) f_330_9 (by decide) rfl rfl (Nat.le_of_ble_eq_true rfl) (Nat.le_of_ble_eq_true rfl) ⟨_, _, rfl, rfl⟩ rfl ?_
    refine c_M_refuse  ?_
    show Wp true i_M_strait 12 [vr 103, vi x1, vr 9999, vr 9999, vr 9999, vr 9999] [vi (-1)] (hs h 103 2 1) Q
    exact r_reti f_330_12 rfl (k2 c1)

theorem g_M_strait_19 {Q : PQ} {h : HP} {x1 : Int} {s0 : Int} 
    (k1 : Wp true i_M_strait 27 [vr 103, vi x1, vi s0, vi 1000000, vi 0, vr 9999] [] h Q) :
    Wp true i_M_strait 19 [vr 103, vi x1, vr 9999, vr 9999, vr 9999, vr 9999] [vi s0] h Q := by
  refine r_istore_n (ls' := [vr 103, vi x1, vi s0, vr 9999, vr 9999, vr 9999]) f_330_19 (Nat.le_of_ble_eq_true rfl) rfl ?_
  refine r_ldc_w f_330_20 (by decide) ?_
  refine r_istore_n (ls' := [vr 103, vi x1, vi s0, vi 1000000, vr 9999, vr 9999]) f_330_23 (Nat.le_of_ble_eq_true rfl) rfl ?_
  refine r_iconst f_330_24 (by decide) ?_
  refine r_istore (ls' := [vr 103, vi x1, vi s0, vi 1000000, vi 0, vr 9999]) f_330_25 (Nat.le_of_ble_eq_true rfl) rfl ?_
  exact k1

theorem g_M_strait_27 {Q : PQ} {h : HP} {x1 : Int} {x2 : Int} {x3 : Int} {x4 : Int} {j5 : AV} 
    (o1 : x2 ≤ x4 → ¬ x3 = 1000000 → 0 ≤ x3 ∧ x3 ≤ 2147483647)
    (k2 : x2 ≤ x4 → ¬ x3 = 1000000 → Q (some (vi (x3 / 100))) (hs h 103 2 0))
    (k3 : x2 ≤ x4 → x3 = 1000000 → Q (some (vi (-1))) (hs h 103 2 6))
    (k4 : ¬ x2 ≤ x4 → Wp true i_M_strait 36 [vr 103, vi x1, vi x2, vi x3, vi x4, vi 0] [] h Q) :
    Wp true i_M_strait 27 [vr 103, vi x1, vi x2, vi x3, vi x4, j5] [] h Q := by
  refine r_iload (v := x4) f_330_27 rfl ?_
  refine r_iload_n (v := x2) f_330_29 rfl ?_
  refine r_br2 (t := 140) f_330_30 rfl cb_ge (fun c1 => ?_) (fun c1 => ?_)
  · refine r_iload_n (v := x3) f_330_140 rfl ?_
    refine r_ldc_w f_330_141 (by decide) ?_
    refine r_br2 (t := 156) f_330_144 rfl cb_ne (fun c2 => ?_) (fun c2 => ?_)
    · refine r_aload_n (v := 103) f_330_156 rfl (by decide) ?_
      refine r_iload_n (v := x3) f_330_157 rfl ?_
      refine r_bipush f_330_158 (by decide) ?_
      refine r_idiv f_330_160 (o1 c1 c2) (by decide) ?_
      refine r_callv (as := [vr 103, vi (x3 / 100)]) (st' := []) (ls0 := [vr 103, vi (x3 / 100)]) f_330_161 (by decide) rfl rfl (Nat.le_of_ble_eq_true rfl) (Nat.le_of_ble_eq_true rfl) ⟨_, _, rfl, rfl⟩ rfl ?_
      refine c_M_gives  ?_
      show Wp true i_M_strait 164 [vr 103, vi x1, vi x2, vi x3, vi x4, j5] [vi (x3 / 100)] (hs h 103 2 0) Q
      exact r_reti f_330_164 rfl (k2 c1 c2)
    · have c2 := Decidable.not_not.mp c2
      refine r_aload_n (v := 103) f_330_147 rfl (by decide) ?_
      refine r_bipush f_330_148 (by decide) ?_
      refine r_callv (as := [vr 103, vi 6]) (st' := []) (ls0 := [vr 103, vi 6]) f_330_150 (by decide) rfl rfl (Nat.le_of_ble_eq_true rfl) (Nat.le_of_ble_eq_true rfl) ⟨_, _, rfl, rfl⟩ rfl ?_
      refine c_M_refuse  ?_
      show Wp true i_M_strait 153 [vr 103, vi x1, vi x2, vi x3, vi x4, j5] [vi (-1)] (hs h 103 2 6) Q
      refine r_goto (t := 164) f_330_153 rfl ?_
      exact r_reti f_330_164 rfl (k3 c1 c2)
  · refine r_iconst f_330_33 (by decide) ?_
    refine r_istore (ls' := [vr 103, vi x1, vi x2, vi x3, vi x4, vi 0]) f_330_34 (Nat.le_of_ble_eq_true rfl) rfl ?_
    exact (k4 c1)

theorem g_M_strait_36 {Q : PQ} {h : HP} {x1 : Int} {x2 : Int} {x3 : Int} {x4 : Int} {x5 : Int} 
    (k1 : 70 ≤ x5 → Wp true i_M_spreads 0 [vr 103, vi x1, vi 0, vi 1, vi (-1), vr 9999, vr 9999, vr 9999, vr 9999, vr 9999] [] h (fun r h' => Wp true i_M_strait 83 [vr 103, vi x1, vi x2, vi x3, vi x4, vi x5] (r.toList ++ []) h' Q))
    (o2 : ¬ 70 ≤ x5 → 0 ≤ x5 ∧ x5 < 70)
    (o3 : ¬ 70 ≤ x5 → ¬ h 112 x5.toNat = x4 → -2147483648 ≤ x5 + 1 ∧ x5 + 1 ≤ 2147483647)
    (k4 : ¬ 70 ≤ x5 → ¬ h 112 x5.toNat = x4 → Wp true i_M_strait 36 [vr 103, vi x1, vi x2, vi x3, vi x4, vi (x5 + 1)] [] (hs h 113 x5.toNat 1000000) Q)
    (o5 : ¬ 70 ≤ x5 → h 112 x5.toNat = x4 → -2147483648 ≤ x5 + 1 ∧ x5 + 1 ≤ 2147483647)
    (k6 : ¬ 70 ≤ x5 → h 112 x5.toNat = x4 → Wp true i_M_strait 36 [vr 103, vi x1, vi x2, vi x3, vi x4, vi (x5 + 1)] [] (hs h 113 x5.toNat 0) Q) :
    Wp true i_M_strait 36 [vr 103, vi x1, vi x2, vi x3, vi x4, vi x5] [] h Q := by
  refine r_iload (v := x5) f_330_36 rfl ?_
  refine r_bipush f_330_38 (by decide) ?_
  refine r_br2 (t := 75) f_330_40 rfl cb_ge (fun c1 => ?_) (fun c1 => ?_)
  · refine r_aload_n (v := 103) f_330_75 rfl (by decide) ?_
    refine r_iload_n (v := x1) f_330_76 rfl ?_
    refine r_iconst f_330_77 (by decide) ?_
    refine r_iconst f_330_78 (by decide) ?_
    refine r_iconst f_330_79 (by decide) ?_
    exact r_callv (as := [vr 103, vi x1, vi 0, vi 1, vi (-1)]) (st' := []) (ls0 := [vr 103, vi x1, vi 0, vi 1, vi (-1), vr 9999, vr 9999, vr 9999, vr 9999, vr 9999]) f_330_80 (by decide) rfl rfl (Nat.le_of_ble_eq_true rfl) (Nat.le_of_ble_eq_true rfl) ⟨_, _, rfl, rfl⟩ rfl (k1 c1)
  · refine r_aload_n (v := 103) f_330_43 rfl (by decide) ?_
    refine r_getr (q := 113) f_330_44 rfl (by decide) (Or.inl rfl) rfl ?_
    refine r_iload (v := x5) f_330_47 rfl ?_
    refine r_aload_n (v := 103) f_330_49 rfl (by decide) ?_
    refine r_getr (q := 112) f_330_50 rfl (by decide) (Or.inl rfl) rfl ?_
    refine r_iload (v := x5) f_330_53 rfl ?_
    refine r_iaload (n := 70) (v := h 112 x5.toNat) f_330_55 ⟨rfl, rfl⟩ (o2 c1) rfl ?_
    refine r_iload (v := x4) f_330_56 rfl ?_
    refine r_br2 (t := 65) f_330_58 rfl cb_ne (fun c2 => ?_) (fun c2 => ?_)
    · refine r_ldc_w f_330_65 (by decide) ?_
      refine r_iastore (n := 70) f_330_68 ⟨rfl, rfl⟩ (o2 c1) ?_
      refine r_iinc (v := x5) (w := x5 + 1) (ls' := [vr 103, vi x1, vi x2, vi x3, vi x4, vi (x5 + 1)]) f_330_69 rfl rfl (o3 c1 c2) rfl ?_
      refine r_goto (t := 36) f_330_72 rfl ?_
      exact (k4 c1 c2)
    · have c2 := Decidable.not_not.mp c2
      refine r_iconst f_330_61 (by decide) ?_
      refine r_goto (t := 68) f_330_62 rfl ?_
      refine r_iastore (n := 70) f_330_68 ⟨rfl, rfl⟩ (o2 c1) ?_
      refine r_iinc (v := x5) (w := x5 + 1) (ls' := [vr 103, vi x1, vi x2, vi x3, vi x4, vi (x5 + 1)]) f_330_69 rfl rfl (o5 c1 c2) rfl ?_
      refine r_goto (t := 36) f_330_72 rfl ?_
      exact (k6 c1 c2)

theorem g_M_strait_83 {Q : PQ} {h : HP} {x1 : Int} {x2 : Int} {x3 : Int} {x4 : Int} {x5 : Int} 
    (k1 : Wp true i_M_strait 86 [vr 103, vi x1, vi x2, vi x3, vi x4, vi 0] [] h Q) :
    Wp true i_M_strait 83 [vr 103, vi x1, vi x2, vi x3, vi x4, vi x5] [] h Q := by
  refine r_iconst f_330_83 (by decide) ?_
  refine r_istore (ls' := [vr 103, vi x1, vi x2, vi x3, vi x4, vi 0]) f_330_84 (Nat.le_of_ble_eq_true rfl) rfl ?_
  exact k1

theorem g_M_strait_86 {Q : PQ} {h : HP} {x1 : Int} {x2 : Int} {x3 : Int} {x4 : Int} {x5 : Int} 
    (o1 : 70 ≤ x5 → -2147483648 ≤ x4 + 1 ∧ x4 + 1 ≤ 2147483647)
    (k2 : 70 ≤ x5 → Wp true i_M_strait 27 [vr 103, vi x1, vi x2, vi x3, vi (x4 + 1), vi x5] [] h Q)
    (o3 : ¬ 70 ≤ x5 → 0 ≤ x5 ∧ x5 < 70)
    (o4 : ¬ 70 ≤ x5 → h 112 x5.toNat = -1 → -2147483648 ≤ x5 + 1 ∧ x5 + 1 ≤ 2147483647)
    (k5 : ¬ 70 ≤ x5 → h 112 x5.toNat = -1 → Wp true i_M_strait 86 [vr 103, vi x1, vi x2, vi x3, vi x4, vi (x5 + 1)] [] h Q)
    (o6 : ¬ 70 ≤ x5 → ¬ h 112 x5.toNat = -1 → h 112 x5.toNat = x4 → -2147483648 ≤ x5 + 1 ∧ x5 + 1 ≤ 2147483647)
    (k7 : ¬ 70 ≤ x5 → ¬ h 112 x5.toNat = -1 → h 112 x5.toNat = x4 → Wp true i_M_strait 86 [vr 103, vi x1, vi x2, vi x3, vi x4, vi (x5 + 1)] [] h Q)
    (o8 : ¬ 70 ≤ x5 → ¬ h 112 x5.toNat = -1 → ¬ h 112 x5.toNat = x4 → -2147483648 ≤ x5 + 1 ∧ x5 + 1 ≤ 2147483647)
    (k9 : ¬ 70 ≤ x5 → ¬ h 112 x5.toNat = -1 → ¬ h 112 x5.toNat = x4 → Wp true i_M_strait 86 [vr 103, vi x1, vi x2, vi (min x3 (h 113 x5.toNat)), vi x4, vi (x5 + 1)] [] h Q) :
    Wp true i_M_strait 86 [vr 103, vi x1, vi x2, vi x3, vi x4, vi x5] [] h Q := by
  refine r_iload (v := x5) f_330_86 rfl ?_
  refine r_bipush f_330_88 (by decide) ?_
  refine r_br2 (t := 134) f_330_90 rfl cb_ge (fun c1 => ?_) (fun c1 => ?_)
  · refine r_iinc (v := x4) (w := x4 + 1) (ls' := [vr 103, vi x1, vi x2, vi x3, vi (x4 + 1), vi x5]) f_330_134 rfl rfl (o1 c1) rfl ?_
    refine r_goto (t := 27) f_330_137 rfl ?_
    exact (k2 c1)
  · refine r_aload_n (v := 103) f_330_93 rfl (by decide) ?_
    refine r_getr (q := 112) f_330_94 rfl (by decide) (Or.inl rfl) rfl ?_
    refine r_iload (v := x5) f_330_97 rfl ?_
    refine r_iaload (n := 70) (v := h 112 x5.toNat) f_330_99 ⟨rfl, rfl⟩ (o3 c1) rfl ?_
    refine r_iconst f_330_100 (by decide) ?_
    refine r_br2 (t := 128) f_330_101 rfl cb_eq (fun c2 => ?_) (fun c2 => ?_)
    · refine r_iinc (v := x5) (w := x5 + 1) (ls' := [vr 103, vi x1, vi x2, vi x3, vi x4, vi (x5 + 1)]) f_330_128 rfl rfl (o4 c1 c2) rfl ?_
      refine r_goto (t := 86) f_330_131 rfl ?_
      exact (k5 c1 c2)
    · refine r_aload_n (v := 103) f_330_104 rfl (by decide) ?_
      refine r_getr (q := 112) f_330_105 rfl (by decide) (Or.inl rfl) rfl ?_
      refine r_iload (v := x5) f_330_108 rfl ?_
      refine r_iaload (n := 70) (v := h 112 x5.toNat) f_330_110 ⟨rfl, rfl⟩ (o3 c1) rfl ?_
      refine r_iload (v := x4) f_330_111 rfl ?_
      refine r_br2 (t := 128) f_330_113 rfl cb_eq (fun c3 => ?_) (fun c3 => ?_)
      · refine r_iinc (v := x5) (w := x5 + 1) (ls' := [vr 103, vi x1, vi x2, vi x3, vi x4, vi (x5 + 1)]) f_330_128 rfl rfl (o6 c1 c2 c3) rfl ?_
        refine r_goto (t := 86) f_330_131 rfl ?_
        exact (k7 c1 c2 c3)
      · refine r_iload_n (v := x3) f_330_116 rfl ?_
        refine r_aload_n (v := 103) f_330_117 rfl (by decide) ?_
        refine r_getr (q := 113) f_330_118 rfl (by decide) (Or.inl rfl) rfl ?_
        refine r_iload (v := x5) f_330_121 rfl ?_
        refine r_iaload (n := 70) (v := h 113 x5.toNat) f_330_123 ⟨rfl, rfl⟩ (o3 c1) rfl ?_
        refine r_calls (as := [vi x3, vi (h 113 x5.toNat)]) (st' := []) (ls0 := [vi x3, vi (h 113 x5.toNat)]) f_330_124 (by decide) (by decide) rfl rfl (Nat.le_of_ble_eq_true rfl) (Nat.le_of_ble_eq_true rfl) rfl ?_
        refine c_Ma_min  ?_
        show Wp true i_M_strait 127 [vr 103, vi x1, vi x2, vi x3, vi x4, vi x5] [vi (min x3 (h 113 x5.toNat))] h Q
        refine r_istore_n (ls' := [vr 103, vi x1, vi x2, vi (min x3 (h 113 x5.toNat)), vi x4, vi x5]) f_330_127 (Nat.le_of_ble_eq_true rfl) rfl ?_
        refine r_iinc (v := x5) (w := x5 + 1) (ls' := [vr 103, vi x1, vi x2, vi (min x3 (h 113 x5.toNat)), vi x4, vi (x5 + 1)]) f_330_128 rfl rfl (o8 c1 c2 c3) rfl ?_
        refine r_goto (t := 86) f_330_131 rfl ?_
        exact (k9 c1 c2 c3)

/-! ===== STRAIT ===== -/
def src (c0 r0 c r : Nat) : Int := if c = c0 ∧ r = r0 then 0 else 1000000
def Any (_ _ : Nat) : Prop := True
def TS (R : HP) (l d : Int) : Prop := ∃ c r c' r', SL R l c r ∧ SL R l c' r' ∧ ¬ Cn (SL R l) c r c' r' ∧ Pth R l 0 (src c r) Any c' r' d
noncomputable def strV (R : HP) (l : Int) : Int := mnV (TS R l)
theorem src_s {c r : Nat} : src c r c r = 0 := if_pos ⟨rfl, rfl⟩
theorem src_o {c0 r0 c r : Nat} (h : ¬ (c = c0 ∧ r = r0)) : src c0 r0 c r = 1000000 := if_neg h
theorem Far_low {R : HP} {l st : Int} {F0 F : Nat → Nat → Int} {Lv : Nat → Nat → Prop} (hs : 0 ≤ st ∧ st ≤ 1) (h0 : ∀ c r, isB R c r → F0 c r ≤ 1000000) (h : Far R l st F0 Lv F) {c r : Nat} {d : Int} (p : Pth R l st F0 Lv c r d) : isB R c r ∧ F c r ≠ 1000000 ∧ F c r ≤ d := by
  obtain ⟨h1, h2, h3⟩ := h
  refine p (fun c r d => isB R c r ∧ F c r ≠ 1000000 ∧ F c r ≤ d) (fun x y b q => ?_) (fun x y d x' y' q lv n b => ?_)
  · have a := h2 x y b
    have a0 := h0 x y b
    exact ⟨b, by omega, a⟩
  · have a := h3 x y x' y' q.1 b q.2.1 lv n
    have w := wtW_rg (R := R) (l := l) (c := x') (r := y') hs
    have z := h1 x y q.1
    refine ⟨b, by omega, by omega⟩
theorem Pth_src {R : HP} {l : Int} {F0 : Nat → Nat → Int} (hF : ∀ x y, F0 x y ≠ 1000000 → F0 x y = 0) {c r : Nat} {d : Int} (p : Pth R l 0 F0 Any c r d) : ∃ x y, isB R x y ∧ F0 x y = 0 ∧ Pth R l 0 (src x y) Any c r d := by
  refine p (fun c r d => ∃ x y, isB R x y ∧ F0 x y = 0 ∧ Pth R l 0 (src x y) Any c r d) (fun x y b q => ?_) (fun x y d x' y' q lv n b => ?_)
  · have e := hF x y q
    refine ⟨x, y, b, e, ?_⟩
    rw [e]
    have := Pth_0 (R := R) (l := l) (st := 0) (F0 := src x y) (Lv := Any) b (by rw [src_s]; decide)
    rw [src_s] at this
    exact this
  · obtain ⟨a, b', q1, q2, q3⟩ := q
    exact ⟨a, b', q1, q2, Pth_s q3 trivial n b⟩
theorem Pth_up {R : HP} {l : Int} {F0 : Nat → Nat → Int} {x y c r : Nat} {d : Int} (hF : F0 x y = 0) (p : Pth R l 0 (src x y) Any c r d) : Pth R l 0 F0 Any c r d := by
  refine p (fun c r d => Pth R l 0 F0 Any c r d) (fun a b bb q => ?_) (fun a b d a' b' q lv n bb => Pth_s q trivial n bb)
  by_cases z : a = x ∧ b = y
  · rw [z.1, z.2] at bb ⊢
    rw [src_s, ← hF]
    exact Pth_0 bb (by rw [hF]; decide)
  · exact absurd (src_o z) q
/-- the least so far, over the ISLANDS with labels below k -/
def StL (R : HP) (l : Int) (L : Nat → Nat → Int) (k v : Int) : Prop :=
  (v = 1000000 ∨ (TS R l v ∧ 0 ≤ v ∧ v ≤ 6363)) ∧ (∀ c r c' r' d, SL R l c r → L c r < k → SL R l c' r' → ¬ Cn (SL R l) c r c' r' → Pth R l 0 (src c r) Any c' r' d → v ≤ d ∧ v ≠ 1000000)
theorem StL_end {R : HP} {l : Int} {L : Nat → Nat → Int} {n v : Int} (hL : ∀ c r, SL R l c r → L c r < n) (h : StL R l L n v) : v = strV R l := by
  obtain ⟨h1, h2⟩ := h
  rcases h1 with z | z
  · rw [z]
    symm
    apply mnV_no
    intro d t
    obtain ⟨c, r, c', r', a, b, e, p⟩ := t
    exact (h2 c r c' r' d a (hL c r a) b e p).2 z
  · symm
    refine mnV_eq z.1 (fun d t => ?_)
    obtain ⟨c, r, c', r', a, b, e, p⟩ := t
    exact (h2 c r c' r' d a (hL c r a) b e p).1
theorem c_M_strait19 {Q : PQ} {h R : HP} {x1 n : Int} (eM : rmM h 0 = R) (W : WR R) (Ly : Lay (SL R x1) h n)
    (k : ∀ h', (∀ k, k ≠ 113 → h' k = h k) → (strV R x1 = 1000000 ∨ (0 ≤ strV R x1 ∧ strV R x1 ≤ 6363)) → Q (some (vi (if strV R x1 = 1000000 then -1 else strV R x1 / 100))) (hs h' 103 2 (if strV R x1 = 1000000 then 6 else 0))) : Wp true i_M_strait 19 [vr 103, vi x1, vr 9999, vr 9999, vr 9999, vr 9999] [vi n] h Q := by
  have w := W.1
  obtain ⟨L1, L2, L3, L4, L5⟩ := Ly
  have lt : ∀ c r, isB R c r → 10 * r + c < 70 := fun c r q => by have := q.1; have := q.2; omega
  have inS : ∀ m, m < 70 → h 112 m ≠ -1 → SL R x1 (m % 10) (m / 10) := by
    intro m hm q
    by_cases z : SL R x1 (m % 10) (m / 10)
    · exact z
    · have := L2 (m % 10) (m / 10) (by omega) (by omega) z
      rw [show 10 * (m / 10) + m % 10 = m by omega] at this
      exact absurd this q
  -- one ISLAND
  have one : ∀ (kk : Int) (v : Int) (h1 : HP) (j5 : AV), 0 ≤ kk → kk < n → (∀ k, k ≠ 113 → h1 k = h k) → StL R x1 (fun c r => h 112 (10 * r + c)) kk v →
      (∀ (h2 : HP) (v2 : Int) (j5 : AV), (∀ k, k ≠ 113 → h2 k = h k) → StL R x1 (fun c r => h 112 (10 * r + c)) (kk + 1) v2 → Wp true i_M_strait 27 [vr 103, vi x1, vi n, vi v2, vi (kk + 1), j5] [] h2 Q) → Wp true i_M_strait 36 [vr 103, vi x1, vi n, vi v, vi kk, vi 0] [] h1 Q := by
    intro kk v h1 j5 k0 kn f I nx
    let F0 : Nat → Nat → Int := fun c r => if h 112 (10 * r + c) = kk then 0 else 1000000
    have hF : ∀ x y, F0 x y ≠ 1000000 → F0 x y = 0 := by
      intro x y q
      show (if h 112 (10 * y + x) = kk then (0 : Int) else 1000000) = 0
      by_cases z : h 112 (10 * y + x) = kk
      · rw [if_pos z]
      · exact absurd (if_neg z) q
    have hF1 : ∀ c r, F0 c r ≤ 1000000 := by
      intro c r
      show (if h 112 (10 * r + c) = kk then (0 : Int) else 1000000) ≤ 1000000
      split <;> omega
    -- then the least of the others
    have scan : ∀ (d m : Nat) (h2 : HP) (v2 : Int), m + d = 70 → (∀ k, k ≠ 113 → h2 k = h k) → Far R x1 0 F0 Any (fun c r => h2 113 (10 * r + c)) → v2 ≤ v → (v2 = v ∨ ∃ c r, SL R x1 c r ∧ h 112 (10 * r + c) ≠ kk ∧ v2 = h2 113 (10 * r + c)) → (∀ c r, SL R x1 c r → 10 * r + c < m → h 112 (10 * r + c) ≠ kk → v2 ≤ h2 113 (10 * r + c)) → Wp true i_M_strait 86 [vr 103, vi x1, vi n, vi v2, vi kk, vi (m : Int)] [] h2 Q := by
      intro d
      induction d with
      | zero =>
        intro m h2 v2 e f2 Fa le ex lo
        have : m = 70 := by omega
        subst this
        have fin : Wp true i_M_strait 27 [vr 103, vi x1, vi n, vi v2, vi (kk + 1), vi ((70 : Nat) : Int)] [] h2 Q := by
          refine nx h2 v2 _ f2 ⟨?_, fun c r c' r' dd q1 q2 q3 q4 p => ?_⟩
          · rcases ex with z | ⟨c, r, z1, z2, z3⟩
            · rw [z]; exact I.1
            · have z3 : v2 = h2 113 (10 * r + c) := z3
              rcases Fa.1 c r z1.1 with u | u
              · have u : h2 113 (10 * r + c) = 1000000 := u
                left; omega
              · have u : 0 ≤ h2 113 (10 * r + c) ∧ h2 113 (10 * r + c) ≤ 6363 ∧ Pth R x1 0 F0 Any c r (h2 113 (10 * r + c)) := u
                right
                refine ⟨?_, by omega, by omega⟩
                obtain ⟨x, y, a1, a2, a3⟩ := Pth_src hF u.2.2
                have lab : h 112 (10 * y + x) = kk := by
                  by_cases y' : h 112 (10 * y + x) = kk
                  · exact y'
                  · have a2 : (if h 112 (10 * y + x) = kk then (0 : Int) else 1000000) = 0 := a2
                    rw [if_neg y'] at a2; omega
                have b1 := a1.1
                have b2 := a1.2
                have sx : SL R x1 x y := by
                  have := inS (10 * y + x) (lt x y a1) (by omega)
                  rw [show (10 * y + x) % 10 = x by omega, show (10 * y + x) / 10 = y by omega] at this
                  exact this
                rw [z3]
                exact ⟨x, y, c, r, sx, z1, fun cn => z2 (((L4 x y c r sx z1).mpr cn).symm.trans lab), a3⟩
          · by_cases z : h 112 (10 * r + c) = kk
            · have ne : h 112 (10 * r' + c') ≠ kk := fun y => q4 ((L4 c r c' r' q1 q3).mp (z.trans y.symm))
              have p0 : Pth R x1 0 F0 Any c' r' dd := Pth_up (by show (if h 112 (10 * r + c) = kk then (0 : Int) else 1000000) = 0; rw [if_pos z]) p
              have fl := Far_low (by omega) (fun c r _ => hF1 c r) Fa p0
              have fl2 : h2 113 (10 * r' + c') ≠ 1000000 ∧ h2 113 (10 * r' + c') ≤ dd := fl.2
              have l2 := lo c' r' q3 (lt c' r' q3.1) ne
              have fr' : h2 113 (10 * r' + c') = 1000000 ∨ (0 ≤ h2 113 (10 * r' + c') ∧ h2 113 (10 * r' + c') ≤ 6363 ∧ _) := Fa.1 c' r' q3.1
              omega
            · have := I.2 c r c' r' dd q1 (by show h 112 (10 * r + c) < kk; have q2 : h 112 (10 * r + c) < kk + 1 := q2; omega) q3 q4 p
              have i1 := I.1
              omega
        refine g_M_strait_86 ?_ ?_ ?_ ?_ ?_ ?_ ?_ ?_ ?_
        · intro c1; (try simp only [Int.toNat_natCast] at c1); first | omega | (exfalso; omega) | exact ⟨by omega, by omega⟩ | (omega) | exact absurd trivial ‹¬ True›
        · intro c1; (try simp only [Int.toNat_natCast] at c1); first | (exfalso; omega) | exact absurd trivial ‹¬ True› | (exact fin)
        · intro c1; (try simp only [Int.toNat_natCast] at c1); first | omega | (exfalso; omega) | exact ⟨by omega, by omega⟩ | (omega) | exact absurd trivial ‹¬ True›
        · intro c1 c2; (try simp only [Int.toNat_natCast] at c1 c2); first | omega | (exfalso; omega) | exact ⟨by omega, by omega⟩ | (omega) | exact absurd trivial ‹¬ True›
        · intro c1 c2; (try simp only [Int.toNat_natCast] at c1 c2); first | (exfalso; omega) | exact absurd trivial ‹¬ True› | (skip)
        · intro c1 c2 c3; (try simp only [Int.toNat_natCast] at c1 c2 c3); first | omega | (exfalso; omega) | exact ⟨by omega, by omega⟩ | (omega) | exact absurd trivial ‹¬ True›
        · intro c1 c2 c3; (try simp only [Int.toNat_natCast] at c1 c2 c3); first | (exfalso; omega) | exact absurd trivial ‹¬ True› | (skip)
        · intro c1 c2 c3; (try simp only [Int.toNat_natCast] at c1 c2 c3); first | omega | (exfalso; omega) | exact ⟨by omega, by omega⟩ | (omega) | exact absurd trivial ‹¬ True›
        · intro c1 c2 c3; (try simp only [Int.toNat_natCast] at c1 c2 c3); first | (exfalso; omega) | exact absurd trivial ‹¬ True› | (skip)
      | succ d ih =>
        intro m h2 v2 e f2 Fa le ex lo
        have em : ((m : Int)).toNat = m := Int.toNat_natCast m
        have e112 : h2 112 = h 112 := f2 112 (by decide)
        have keep : (∀ c r, SL R x1 c r → 10 * r + c = m → h 112 (10 * r + c) ≠ kk → v2 ≤ h2 113 (10 * r + c)) → Wp true i_M_strait 86 [vr 103, vi x1, vi n, vi v2, vi kk, vi ((m : Int) + 1)] [] h2 Q := by
          intro q
          refine ih (m + 1) h2 v2 (by omega) f2 Fa le ex (fun c r q1 q2 q3 => ?_)
          by_cases z : 10 * r + c < m
          · exact lo c r q1 z q3
          · exact q c r q1 (by omega) q3
        refine g_M_strait_86 ?_ ?_ ?_ ?_ ?_ ?_ ?_ ?_ ?_
        · intro c1; (try simp only [Int.toNat_natCast] at c1); first | omega | (exfalso; omega) | exact ⟨by omega, by omega⟩ | (omega) | exact absurd trivial ‹¬ True›
        · intro c1; (try simp only [Int.toNat_natCast] at c1); first | (exfalso; omega) | exact absurd trivial ‹¬ True› | (skip)
        · intro c1; (try simp only [Int.toNat_natCast] at c1); first | omega | (exfalso; omega) | exact ⟨by omega, by omega⟩ | (omega) | exact absurd trivial ‹¬ True›
        · intro c1 c2; (try simp only [Int.toNat_natCast] at c1 c2); first | omega | (exfalso; omega) | exact ⟨by omega, by omega⟩ | (omega) | exact absurd trivial ‹¬ True›
        · intro c1 c2; (try simp only [Int.toNat_natCast] at c1 c2)
          rw [e112] at c2
          refine keep (fun c r q1 q2 q3 => ?_)
          have := L3 c r q1
          rw [q2] at this
          omega
        · intro c1 c2 c3; (try simp only [Int.toNat_natCast] at c1 c2 c3); first | omega | (exfalso; omega) | exact ⟨by omega, by omega⟩ | (omega) | exact absurd trivial ‹¬ True›
        · intro c1 c2 c3; (try simp only [Int.toNat_natCast] at c1 c2 c3)
          rw [e112] at c3
          exact keep (fun c r q1 q2 q3 => by rw [q2] at q3; exact absurd c3 q3)
        · intro c1 c2 c3; (try simp only [Int.toNat_natCast] at c1 c2 c3); first | omega | (exfalso; omega) | exact ⟨by omega, by omega⟩ | (omega) | exact absurd trivial ‹¬ True›
        · intro c1 c2 c3; (try simp only [Int.toNat_natCast] at c1 c2 c3)
          rw [e112] at c2 c3
          rw [em]
          have sm := inS m (by omega) c2
          refine ih (m + 1) h2 (min v2 (h2 113 m)) (by omega) f2 Fa (by omega) ?_ (fun c r q1 q2 q3 => ?_)
          · rcases Int.le_total v2 (h2 113 m) with u | u
            · rw [Int.min_eq_left u]; exact ex
            · rw [Int.min_eq_right u]
              right
              refine ⟨m % 10, m / 10, sm, ?_, ?_⟩
              · rw [show 10 * (m / 10) + m % 10 = m by omega]; exact c3
              · rw [show 10 * (m / 10) + m % 10 = m by omega]
          · by_cases z : 10 * r + c < m
            · have := lo c r q1 z q3
              omega
            · have z : 10 * r + c = m := by omega
              rw [z]; omega
    have init : ∀ (d m : Nat), m + d = 70 → Wp true i_M_strait 36 [vr 103, vi x1, vi n, vi v, vi kk, vi (m : Int)] [] (wr h1 113 0 m (fun m => if h 112 m = kk then 0 else 1000000)) Q := by
      intro d
      induction d with
      | zero =>
        intro m e
        have : m = 70 := by omega
        subst this
        have f3 : ∀ k, k ≠ 113 → wr h1 113 0 70 (fun m => if h 112 m = kk then 0 else 1000000) k = h k := fun k hk => (wr_ne hk).trans (f k hk)
        have eM1 : rmM (wr h1 113 0 70 (fun m => if h 112 m = kk then 0 else 1000000)) 0 = R := (rmM_congr (f3 104 (by decide))).trans eM
        have val : ∀ m, m < 70 → wr h1 113 0 70 (fun m => if h 112 m = kk then 0 else 1000000) 113 m = if h 112 m = kk then 0 else 1000000 := fun m hm => wr_in (by omega)
        have sp : Wp true i_M_spreads 0 [vr 103, vi x1, vi 0, vi 1, vi (-1), vr 9999, vr 9999, vr 9999, vr 9999, vr 9999] [] (wr h1 113 0 70 (fun m => if h 112 m = kk then 0 else 1000000)) (fun r h' => Wp true i_M_strait 83 [vr 103, vi x1, vi n, vi v, vi kk, vi ((70 : Nat) : Int)] (r.toList ++ []) h' Q) := by
          refine c_M_spreads (F0 := F0) (Lv := Any) eM1 W (by omega) ⟨fun _ _ => rfl, fun c r q => ?_, fun c r q => ?_, fun m hm q => ?_⟩ (fun m hm q => ⟨fun _ => Or.inl (by decide), fun _ => trivial⟩) (fun h' g1 g2 Fa => ?_)
          · rw [val _ (lt c r q)]
            by_cases z : h 112 (10 * r + c) = kk
            · right
              rw [if_pos z]
              have cr := cnt_rg W (fun c r => ¬ wr h1 113 0 70 (fun m => if h 112 m = kk then 0 else 1000000) 113 (10 * r + c) = 1000000)
              have e0 : F0 c r = 0 := if_pos z
              refine ⟨by omega, by omega, ?_⟩
              rw [← e0]
              exact Pth_0 q (by rw [e0]; decide)
            · left; rw [if_neg z]
          · rw [val _ (lt c r q)]
            exact Int.le_refl _
          · rw [val m hm, if_neg]
            intro z
            exact q (inS m hm (by omega)).1
          · refine g_M_strait_83 ?_
            exact scan 70 0 h' v rfl (fun k hk => (g1 k hk).trans (f3 k hk)) Fa (Int.le_refl _) (Or.inl rfl) (fun c r q1 q2 => by omega)
        refine g_M_strait_36 ?_ ?_ ?_ ?_ ?_ ?_
        · intro c1; (try simp only [Int.toNat_natCast] at c1); first | (exfalso; omega) | exact absurd trivial ‹¬ True› | (exact sp)
        · intro c1; (try simp only [Int.toNat_natCast] at c1); first | omega | (exfalso; omega) | exact ⟨by omega, by omega⟩ | (omega) | exact absurd trivial ‹¬ True›
        · intro c1 c2; (try simp only [Int.toNat_natCast] at c1 c2); first | omega | (exfalso; omega) | exact ⟨by omega, by omega⟩ | (omega) | exact absurd trivial ‹¬ True›
        · intro c1 c2; (try simp only [Int.toNat_natCast] at c1 c2); first | (exfalso; omega) | exact absurd trivial ‹¬ True› | (skip)
        · intro c1 c2; (try simp only [Int.toNat_natCast] at c1 c2); first | omega | (exfalso; omega) | exact ⟨by omega, by omega⟩ | (omega) | exact absurd trivial ‹¬ True›
        · intro c1 c2; (try simp only [Int.toNat_natCast] at c1 c2); first | (exfalso; omega) | exact absurd trivial ‹¬ True› | (skip)
      | succ d ih =>
        intro m e
        have em : ((m : Int)).toNat = m := Int.toNat_natCast m
        have st := wr_s (h := h1) (k := 113) (a := 0) (n := m) (T := fun m => if h 112 m = kk then 0 else 1000000)
        rw [Nat.zero_add] at st
        have nx2 := ih (m + 1) (by omega)
        rw [← st] at nx2
        have e112 : wr h1 113 0 m (fun m => if h 112 m = kk then 0 else 1000000) 112 = h 112 := (wr_ne (by decide)).trans (f 112 (by decide))
        refine g_M_strait_36 ?_ ?_ ?_ ?_ ?_ ?_
        · intro c1; (try simp only [Int.toNat_natCast] at c1); first | (exfalso; omega) | exact absurd trivial ‹¬ True› | (skip)
        · intro c1; (try simp only [Int.toNat_natCast] at c1); first | omega | (exfalso; omega) | exact ⟨by omega, by omega⟩ | (omega) | exact absurd trivial ‹¬ True›
        · intro c1 c2; (try simp only [Int.toNat_natCast] at c1 c2); first | omega | (exfalso; omega) | exact ⟨by omega, by omega⟩ | (omega) | exact absurd trivial ‹¬ True›
        · intro c1 c2; (try simp only [Int.toNat_natCast] at c1 c2)
          rw [e112] at c2
          rw [if_neg c2] at nx2
          rw [em]
          exact nx2
        · intro c1 c2; (try simp only [Int.toNat_natCast] at c1 c2); first | omega | (exfalso; omega) | exact ⟨by omega, by omega⟩ | (omega) | exact absurd trivial ‹¬ True›
        · intro c1 c2; (try simp only [Int.toNat_natCast] at c1 c2)
          rw [e112] at c2
          rw [if_pos c2] at nx2
          rw [em]
          exact nx2
    have := init 70 0 rfl
    rw [wr_0] at this
    exact this
  have all : ∀ (d : Nat) (kk v : Int) (h1 : HP) (j5 : AV), 0 ≤ kk → kk + d = n → (∀ k, k ≠ 113 → h1 k = h k) → StL R x1 (fun c r => h 112 (10 * r + c)) kk v → Wp true i_M_strait 27 [vr 103, vi x1, vi n, vi v, vi kk, j5] [] h1 Q := by
    intro d
    induction d with
    | zero =>
      intro kk v h1 j5 k0 e f I
      have ek : kk = n := by omega
      subst ek
      have ev := StL_end (L := fun c r => h 112 (10 * r + c)) (fun c r q => (L3 c r q).2) I
      have rg : strV R x1 = 1000000 ∨ (0 ≤ strV R x1 ∧ strV R x1 ≤ 6363) := by
        rw [← ev]
        have := I.1
        omega
      have k := k h1 f rg
      rw [← ev] at k rg
      refine g_M_strait_27 (fun _ q => by omega) (fun _ q => ?_) (fun _ q => ?_) (fun q => by omega)
      · rw [if_neg q, if_neg q] at k; exact k
      · rw [if_pos q, if_pos q] at k; exact k
    | succ d ih =>
      intro kk v h1 j5 k0 e f I
      refine g_M_strait_27 (fun q => by omega) (fun q => by omega) (fun q => by omega) (fun _ => ?_)
      exact one kk v h1 j5 k0 (by omega) f I (fun h2 v2 j5 f2 I2 => ih (kk + 1) v2 h2 j5 (by omega) (by omega) f2 I2)
  refine g_M_strait_19 ?_
  refine all n.toNat 0 1000000 h _ (by omega) (by omega) (fun _ _ => rfl) ⟨Or.inl rfl, fun c r c' r' d q1 q2 => ?_⟩
  have := L3 c r q1
  have q2 : h 112 (10 * r + c) < 0 := q2
  omega
