theorem g_M_laysLines_0 {Q : PQ} {h : HP} {x1 : Int} 
    (o1 : -2147483648 ≤ (h 104 1) - 1 ∧ (h 104 1) - 1 ≤ 2147483647)
    (k2 : Wp true i_M_laysLines 15 [vr 103, vi x1, vj 0, vr 9999, vi ((h 104 1) - 1), vi 0, vr 9999, vr 9999, vr 9999, vr 9999, vr 9999, vr 9999, vr 9999] [] h Q) :
    Wp true i_M_laysLines 0 [vr 103, vi x1, vr 9999, vr 9999, vr 9999, vr 9999, vr 9999, vr 9999, vr 9999, vr 9999, vr 9999, vr 9999, vr 9999] [] h Q := by
  refine r_lconst (v := 0) f_351_0 rfl ?_
  refine r_lstore_n (ls' := [vr 103, vi x1, vj 0, vr 9999, vr 9999, vr 9999, vr 9999, vr 9999, vr 9999, vr 9999, vr 9999, vr 9999, vr 9999]) f_351_1 (Nat.le_of_ble_eq_true rfl) rfl ?_
  refine r_aload_n (v := 103) f_351_2 rfl (by decide) ?_
  refine r_getr (q := 104) f_351_3 rfl (by decide) (Or.inl rfl) rfl ?_
  refine r_iconst f_351_6 (by decide) ?_
  refine r_iaload (n := 3000) (v := h 104 1) f_351_7 ⟨rfl, rfl⟩ (by decide) rfl ?_
  refine r_iconst f_351_8 (by decide) ?_
  refine r_isub (u := (h 104 1) - 1) f_351_9 rfl o1 ?_
  refine r_istore (ls' := [vr 103, vi x1, vj 0, vr 9999, vi ((h 104 1) - 1), vr 9999, vr 9999, vr 9999, vr 9999, vr 9999, vr 9999, vr 9999, vr 9999]) f_351_10 (Nat.le_of_ble_eq_true rfl) rfl ?_
  refine r_iconst f_351_12 (by decide) ?_
  refine r_istore (ls' := [vr 103, vi x1, vj 0, vr 9999, vi ((h 104 1) - 1), vi 0, vr 9999, vr 9999, vr 9999, vr 9999, vr 9999, vr 9999, vr 9999]) f_351_13 (Nat.le_of_ble_eq_true rfl) rfl ?_
  exact k2

theorem g_M_laysLines_15 {Q : PQ} {h : HP} {x1 : Int} {y2 : Int} {x4 : Int} {x5 : Int} {j6 : AV} {j7 : AV} {j8 : AV} {j10 : AV} {j12 : AV} 
    (k1 : x4 < x5 → Q (some (vj y2)) h)
    (k2 : ¬ x4 < x5 → Wp true i_M_laysLines 25 [vr 103, vi x1, vj y2, vr 9999, vi x4, vi x5, vi 0, j7, j8, vr 9999, j10, vr 9999, j12] [] h Q) :
    Wp true i_M_laysLines 15 [vr 103, vi x1, vj y2, vr 9999, vi x4, vi x5, j6, j7, j8, vr 9999, j10, vr 9999, j12] [] h Q := by
  refine r_iload (v := x5) f_351_15 rfl ?_
  refine r_iload (v := x4) f_351_17 rfl ?_
  refine r_br2 (t := 282) f_351_19 rfl cb_gt (fun c1 => ?_) (fun c1 => ?_)
  · refine r_lload_n (v := y2) f_351_282 rfl ?_
    exact r_retj f_351_283 rfl (k1 c1)
  · refine r_iconst f_351_22 (by decide) ?_
    refine r_istore (ls' := [vr 103, vi x1, vj y2, vr 9999, vi x4, vi x5, vi 0, j7, j8, vr 9999, j10, vr 9999, j12]) f_351_23 (Nat.le_of_ble_eq_true rfl) rfl ?_
    exact (k2 c1)

theorem g_M_laysLines_25 {Q : PQ} {h : HP} {x1 : Int} {y2 : Int} {x4 : Int} {x5 : Int} {x6 : Int} {j7 : AV} {j8 : AV} {j10 : AV} {j12 : AV} 
    (o1 : h 104 0 < x6 → -2147483648 ≤ x5 + 1 ∧ x5 + 1 ≤ 2147483647)
    (k2 : h 104 0 < x6 → Wp true i_M_laysLines 15 [vr 103, vi x1, vj y2, vr 9999, vi x4, vi (x5 + 1), vi x6, j7, j8, vr 9999, j10, vr 9999, j12] [] h Q)
    (k3 : ¬ h 104 0 < x6 → Wp true i_M_laysLines 39 [vr 103, vi x1, vj y2, vr 9999, vi x4, vi x5, vi x6, vi 0, j8, vr 9999, j10, vr 9999, j12] [] h Q) :
    Wp true i_M_laysLines 25 [vr 103, vi x1, vj y2, vr 9999, vi x4, vi x5, vi x6, j7, j8, vr 9999, j10, vr 9999, j12] [] h Q := by
  refine r_iload (v := x6) f_351_25 rfl ?_
  refine r_aload_n (v := 103) f_351_27 rfl (by decide) ?_
  refine r_getr (q := 104) f_351_28 rfl (by decide) (Or.inl rfl) rfl ?_
  refine r_iconst f_351_31 (by decide) ?_
  refine r_iaload (n := 3000) (v := h 104 0) f_351_32 ⟨rfl, rfl⟩ (by decide) rfl ?_
  refine r_br2 (t := 276) f_351_33 rfl cb_gt (fun c1 => ?_) (fun c1 => ?_)
  · refine r_iinc (v := x5) (w := x5 + 1) (ls' := [vr 103, vi x1, vj y2, vr 9999, vi x4, vi (x5 + 1), vi x6, j7, j8, vr 9999, j10, vr 9999, j12]) f_351_276 rfl rfl (o1 c1) rfl ?_
    refine r_goto (t := 15) f_351_279 rfl ?_
    exact (k2 c1)
  · refine r_iconst f_351_36 (by decide) ?_
    refine r_istore (ls' := [vr 103, vi x1, vj y2, vr 9999, vi x4, vi x5, vi x6, vi 0, j8, vr 9999, j10, vr 9999, j12]) f_351_37 (Nat.le_of_ble_eq_true rfl) rfl ?_
    exact (k3 c1)

theorem g_M_laysLines_39 {Q : PQ} {h : HP} {x1 : Int} {y2 : Int} {x4 : Int} {x5 : Int} {x6 : Int} {x7 : Int} {j8 : AV} {j10 : AV} {j12 : AV} 
    (o1 : 63 < x7 → ¬ x5 = x4 → -9223372036854775808 ≤ y2 + 0 ∧ y2 + 0 ≤ 9223372036854775807)
    (o2 : 63 < x7 → ¬ x5 = x4 → -2147483648 ≤ x6 + 1 ∧ x6 + 1 ≤ 2147483647)
    (k3 : 63 < x7 → ¬ x5 = x4 → Wp true i_M_laysLines 25 [vr 103, vi x1, vj (y2 + 0), vr 9999, vi x4, vi x5, vi (x6 + 1), vi x7, j8, vr 9999, j10, vr 9999, j12] [] h Q)
    (o4 : 63 < x7 → x5 = x4 → -2147483648 ≤ 640 * x5 ∧ 640 * x5 ≤ 2147483647)
    (o5 : 63 < x7 → x5 = x4 → -2147483648 ≤ 64 * x6 ∧ 64 * x6 ≤ 2147483647)
    (o6 : 63 < x7 → x5 = x4 → -2147483648 ≤ (640 * x5) + (64 * x6) ∧ (640 * x5) + (64 * x6) ≤ 2147483647)
    (o7 : 63 < x7 → x5 = x4 → -2147483648 ≤ ((640 * x5) + (64 * x6)) + x1 ∧ ((640 * x5) + (64 * x6)) + x1 ≤ 2147483647)
    (o8 : 63 < x7 → x5 = x4 → 0 ≤ ((640 * x5) + (64 * x6)) + x1 ∧ ((640 * x5) + (64 * x6)) + x1 < 4480)
    (o9 : 63 < x7 → x5 = x4 → -9223372036854775808 ≤ y2 + (h 116 (((640 * x5) + (64 * x6)) + x1).toNat) ∧ y2 + (h 116 (((640 * x5) + (64 * x6)) + x1).toNat) ≤ 9223372036854775807)
    (o10 : 63 < x7 → x5 = x4 → -2147483648 ≤ x6 + 1 ∧ x6 + 1 ≤ 2147483647)
    (k11 : 63 < x7 → x5 = x4 → Wp true i_M_laysLines 25 [vr 103, vi x1, vj (y2 + (h 116 (((640 * x5) + (64 * x6)) + x1).toNat)), vr 9999, vi x4, vi x5, vi (x6 + 1), vi x7, j8, vr 9999, j10, vr 9999, j12] [] h Q)
    (k12 : ¬ 63 < x7 → ¬ x5 = 0 → Wp true i_M_laysLines 72 [vr 103, vi x1, vj y2, vr 9999, vi x4, vi x5, vi x6, vi x7, vj 0, vr 9999, vj 0, vr 9999, vi 0] [] h Q)
    (k13 : ¬ 63 < x7 → x5 = 0 → ¬ x7 = x6 → Wp true i_M_laysLines 72 [vr 103, vi x1, vj y2, vr 9999, vi x4, vi x5, vi x6, vi x7, vj 0, vr 9999, vj 0, vr 9999, vi 0] [] h Q)
    (k14 : ¬ 63 < x7 → x5 = 0 → x7 = x6 → Wp true i_M_laysLines 72 [vr 103, vi x1, vj y2, vr 9999, vi x4, vi x5, vi x6, vi x7, vj 1, vr 9999, vj 1, vr 9999, vi 0] [] h Q) :
    Wp true i_M_laysLines 39 [vr 103, vi x1, vj y2, vr 9999, vi x4, vi x5, vi x6, vi x7, j8, vr 9999, j10, vr 9999, j12] [] h Q := by
  refine r_iload (v := x7) f_351_39 rfl ?_
  refine r_bipush f_351_41 (by decide) ?_
  refine r_br2 (t := 237) f_351_43 rfl cb_gt (fun c1 => ?_) (fun c1 => ?_)
  · refine r_lload_n (v := y2) f_351_237 rfl ?_
    refine r_iload (v := x5) f_351_238 rfl ?_
    refine r_iload (v := x4) f_351_240 rfl ?_
    refine r_br2 (t := 267) f_351_242 rfl cb_ne (fun c2 => ?_) (fun c2 => ?_)
    · refine r_lconst (v := 0) f_351_267 rfl ?_
      refine r_ladd (u := y2 + 0) f_351_268 rfl (o1 c1 c2) ?_
      refine r_lstore_n (ls' := [vr 103, vi x1, vj (y2 + 0), vr 9999, vi x4, vi x5, vi x6, vi x7, j8, vr 9999, j10, vr 9999, j12]) f_351_269 (Nat.le_of_ble_eq_true rfl) rfl ?_
      refine r_iinc (v := x6) (w := x6 + 1) (ls' := [vr 103, vi x1, vj (y2 + 0), vr 9999, vi x4, vi x5, vi (x6 + 1), vi x7, j8, vr 9999, j10, vr 9999, j12]) f_351_270 rfl rfl (o2 c1 c2) rfl ?_
      refine r_goto (t := 25) f_351_273 rfl ?_
      exact (k3 c1 c2)
    · have c2 := Decidable.not_not.mp c2
      refine r_aload_n (v := 103) f_351_245 rfl (by decide) ?_
      refine r_getr (q := 116) f_351_246 rfl (by decide) (Or.inl rfl) rfl ?_
      refine r_sipush f_351_249 (by decide) ?_
      refine r_iload (v := x5) f_351_252 rfl ?_
      refine r_imul (u := 640 * x5) f_351_254 rfl (o4 c1 c2) ?_
      refine r_bipush f_351_255 (by decide) ?_
      refine r_iload (v := x6) f_351_257 rfl ?_
      refine r_imul (u := 64 * x6) f_351_259 rfl (o5 c1 c2) ?_
      refine r_iadd (u := (640 * x5) + (64 * x6)) f_351_260 rfl (o6 c1 c2) ?_
      refine r_iload_n (v := x1) f_351_261 rfl ?_
      refine r_iadd (u := ((640 * x5) + (64 * x6)) + x1) f_351_262 rfl (o7 c1 c2) ?_
      refine r_laload (n := 4480) (v := h 116 (((640 * x5) + (64 * x6)) + x1).toNat) f_351_263 ⟨rfl, rfl⟩ (o8 c1 c2) rfl ?_
      refine r_goto (t := 268) f_351_264 rfl ?_
      refine r_ladd (u := y2 + (h 116 (((640 * x5) + (64 * x6)) + x1).toNat)) f_351_268 rfl (o9 c1 c2) ?_
      refine r_lstore_n (ls' := [vr 103, vi x1, vj (y2 + (h 116 (((640 * x5) + (64 * x6)) + x1).toNat)), vr 9999, vi x4, vi x5, vi x6, vi x7, j8, vr 9999, j10, vr 9999, j12]) f_351_269 (Nat.le_of_ble_eq_true rfl) rfl ?_
      refine r_iinc (v := x6) (w := x6 + 1) (ls' := [vr 103, vi x1, vj (y2 + (h 116 (((640 * x5) + (64 * x6)) + x1).toNat)), vr 9999, vi x4, vi x5, vi (x6 + 1), vi x7, j8, vr 9999, j10, vr 9999, j12]) f_351_270 rfl rfl (o10 c1 c2) rfl ?_
      refine r_goto (t := 25) f_351_273 rfl ?_
      exact (k11 c1 c2)
  · refine r_iload (v := x5) f_351_46 rfl ?_
    refine r_br (t := 62) f_351_48 rfl cb_ne (fun c2 => ?_) (fun c2 => ?_)
    · refine r_lconst (v := 0) f_351_62 rfl ?_
      refine r_lstore (ls' := [vr 103, vi x1, vj y2, vr 9999, vi x4, vi x5, vi x6, vi x7, vj 0, vr 9999, j10, vr 9999, j12]) f_351_63 (Nat.le_of_ble_eq_true rfl) rfl ?_
      refine r_lload (v := 0) f_351_65 rfl ?_
      refine r_lstore (ls' := [vr 103, vi x1, vj y2, vr 9999, vi x4, vi x5, vi x6, vi x7, vj 0, vr 9999, vj 0, vr 9999, j12]) f_351_67 (Nat.le_of_ble_eq_true rfl) rfl ?_
      refine r_iconst f_351_69 (by decide) ?_
      refine r_istore (ls' := [vr 103, vi x1, vj y2, vr 9999, vi x4, vi x5, vi x6, vi x7, vj 0, vr 9999, vj 0, vr 9999, vi 0]) f_351_70 (Nat.le_of_ble_eq_true rfl) rfl ?_
      exact (k12 c1 c2)
    · have c2 := Decidable.not_not.mp c2
      refine r_iload (v := x7) f_351_51 rfl ?_
      refine r_iload (v := x6) f_351_53 rfl ?_
      refine r_br2 (t := 62) f_351_55 rfl cb_ne (fun c3 => ?_) (fun c3 => ?_)
      · refine r_lconst (v := 0) f_351_62 rfl ?_
        refine r_lstore (ls' := [vr 103, vi x1, vj y2, vr 9999, vi x4, vi x5, vi x6, vi x7, vj 0, vr 9999, j10, vr 9999, j12]) f_351_63 (Nat.le_of_ble_eq_true rfl) rfl ?_
        refine r_lload (v := 0) f_351_65 rfl ?_
        refine r_lstore (ls' := [vr 103, vi x1, vj y2, vr 9999, vi x4, vi x5, vi x6, vi x7, vj 0, vr 9999, vj 0, vr 9999, j12]) f_351_67 (Nat.le_of_ble_eq_true rfl) rfl ?_
        refine r_iconst f_351_69 (by decide) ?_
        refine r_istore (ls' := [vr 103, vi x1, vj y2, vr 9999, vi x4, vi x5, vi x6, vi x7, vj 0, vr 9999, vj 0, vr 9999, vi 0]) f_351_70 (Nat.le_of_ble_eq_true rfl) rfl ?_
        exact (k13 c1 c2 c3)
      · have c3 := Decidable.not_not.mp c3
        refine r_lconst (v := 1) f_351_58 rfl ?_
        refine r_goto (t := 63) f_351_59 rfl ?_
        refine r_lstore (ls' := [vr 103, vi x1, vj y2, vr 9999, vi x4, vi x5, vi x6, vi x7, vj 1, vr 9999, j10, vr 9999, j12]) f_351_63 (Nat.le_of_ble_eq_true rfl) rfl ?_
        refine r_lload (v := 1) f_351_65 rfl ?_
        refine r_lstore (ls' := [vr 103, vi x1, vj y2, vr 9999, vi x4, vi x5, vi x6, vi x7, vj 1, vr 9999, vj 1, vr 9999, j12]) f_351_67 (Nat.le_of_ble_eq_true rfl) rfl ?_
        refine r_iconst f_351_69 (by decide) ?_
        refine r_istore (ls' := [vr 103, vi x1, vj y2, vr 9999, vi x4, vi x5, vi x6, vi x7, vj 1, vr 9999, vj 1, vr 9999, vi 0]) f_351_70 (Nat.le_of_ble_eq_true rfl) rfl ?_
        exact (k14 c1 c2 c3)

theorem g_M_laysLines_72 {Q : PQ} {h : HP} {x1 : Int} {y2 : Int} {x4 : Int} {x5 : Int} {x6 : Int} {x7 : Int} {y8 : Int} {y10 : Int} {x12 : Int} 
    (k1 : h 104 0 < x12 → Wp true i_M_laysLines 184 [vr 103, vi x1, vj y2, vr 9999, vi x4, vi x5, vi x6, vi x7, vj y8, vr 9999, vj y10, vr 9999, vi x12] [] h Q)
    (k2 : ¬ h 104 0 < x12 → x5 ≤ 0 → Wp true i_M_laysLines 184 [vr 103, vi x1, vj y2, vr 9999, vi x4, vi x5, vi x6, vi x7, vj y8, vr 9999, vj y10, vr 9999, vi x12] [] h Q)
    (k3 : ¬ h 104 0 < x12 → ¬ x5 ≤ 0 → x7 < x6 → Wp true i_M_laysLines 184 [vr 103, vi x1, vj y2, vr 9999, vi x4, vi x5, vi x6, vi x7, vj y8, vr 9999, vj y10, vr 9999, vi x12] [] h Q)
    (o4 : ¬ h 104 0 < x12 → ¬ x5 ≤ 0 → ¬ x7 < x6 → -2147483648 ≤ x12 - x6 ∧ x12 - x6 ≤ 2147483647)
    (o5 : ¬ h 104 0 < x12 → ¬ x5 ≤ 0 → ¬ x7 < x6 → -2147483647 ≤ (x12 - x6) ∧ (x12 - x6) ≤ 2147483647)
    (o6 : ¬ h 104 0 < x12 → ¬ x5 ≤ 0 → ¬ x7 < x6 → ((x12 - x6).natAbs : Int) ≤ h 104 3 → -2147483648 ≤ x5 - 1 ∧ x5 - 1 ≤ 2147483647)
    (o7 : ¬ h 104 0 < x12 → ¬ x5 ≤ 0 → ¬ x7 < x6 → ((x12 - x6).natAbs : Int) ≤ h 104 3 → -2147483648 ≤ 640 * (x5 - 1) ∧ 640 * (x5 - 1) ≤ 2147483647)
    (o8 : ¬ h 104 0 < x12 → ¬ x5 ≤ 0 → ¬ x7 < x6 → ((x12 - x6).natAbs : Int) ≤ h 104 3 → -2147483648 ≤ 64 * x12 ∧ 64 * x12 ≤ 2147483647)
    (o9 : ¬ h 104 0 < x12 → ¬ x5 ≤ 0 → ¬ x7 < x6 → ((x12 - x6).natAbs : Int) ≤ h 104 3 → -2147483648 ≤ (640 * (x5 - 1)) + (64 * x12) ∧ (640 * (x5 - 1)) + (64 * x12) ≤ 2147483647)
    (o10 : ¬ h 104 0 < x12 → ¬ x5 ≤ 0 → ¬ x7 < x6 → ((x12 - x6).natAbs : Int) ≤ h 104 3 → -2147483648 ≤ ((640 * (x5 - 1)) + (64 * x12)) + x7 ∧ ((640 * (x5 - 1)) + (64 * x12)) + x7 ≤ 2147483647)
    (o11 : ¬ h 104 0 < x12 → ¬ x5 ≤ 0 → ¬ x7 < x6 → ((x12 - x6).natAbs : Int) ≤ h 104 3 → -2147483648 ≤ (((640 * (x5 - 1)) + (64 * x12)) + x7) - x6 ∧ (((640 * (x5 - 1)) + (64 * x12)) + x7) - x6 ≤ 2147483647)
    (o12 : ¬ h 104 0 < x12 → ¬ x5 ≤ 0 → ¬ x7 < x6 → ((x12 - x6).natAbs : Int) ≤ h 104 3 → 0 ≤ (((640 * (x5 - 1)) + (64 * x12)) + x7) - x6 ∧ (((640 * (x5 - 1)) + (64 * x12)) + x7) - x6 < 4480)
    (o13 : ¬ h 104 0 < x12 → ¬ x5 ≤ 0 → ¬ x7 < x6 → ((x12 - x6).natAbs : Int) ≤ h 104 3 → -9223372036854775808 ≤ y8 + (h 116 ((((640 * (x5 - 1)) + (64 * x12)) + x7) - x6).toNat) ∧ y8 + (h 116 ((((640 * (x5 - 1)) + (64 * x12)) + x7) - x6).toNat) ≤ 9223372036854775807)
    (o14 : ¬ h 104 0 < x12 → ¬ x5 ≤ 0 → ¬ x7 < x6 → ((x12 - x6).natAbs : Int) ≤ h 104 3 → -2147483648 ≤ x4 - x5 ∧ x4 - x5 ≤ 2147483647)
    (o15 : ¬ h 104 0 < x12 → ¬ x5 ≤ 0 → ¬ x7 < x6 → ((x12 - x6).natAbs : Int) ≤ h 104 3 → -2147483648 ≤ (x4 - x5) + 1 ∧ (x4 - x5) + 1 ≤ 2147483647)
    (o16 : ¬ h 104 0 < x12 → ¬ x5 ≤ 0 → ¬ x7 < x6 → ((x12 - x6).natAbs : Int) ≤ h 104 3 → -2147483648 ≤ 640 * ((x4 - x5) + 1) ∧ 640 * ((x4 - x5) + 1) ≤ 2147483647)
    (o17 : ¬ h 104 0 < x12 → ¬ x5 ≤ 0 → ¬ x7 < x6 → ((x12 - x6).natAbs : Int) ≤ h 104 3 → -2147483648 ≤ (640 * ((x4 - x5) + 1)) + (64 * x12) ∧ (640 * ((x4 - x5) + 1)) + (64 * x12) ≤ 2147483647)
    (o18 : ¬ h 104 0 < x12 → ¬ x5 ≤ 0 → ¬ x7 < x6 → ((x12 - x6).natAbs : Int) ≤ h 104 3 → -2147483648 ≤ ((640 * ((x4 - x5) + 1)) + (64 * x12)) + x7 ∧ ((640 * ((x4 - x5) + 1)) + (64 * x12)) + x7 ≤ 2147483647)
    (o19 : ¬ h 104 0 < x12 → ¬ x5 ≤ 0 → ¬ x7 < x6 → ((x12 - x6).natAbs : Int) ≤ h 104 3 → -2147483648 ≤ (((640 * ((x4 - x5) + 1)) + (64 * x12)) + x7) - x6 ∧ (((640 * ((x4 - x5) + 1)) + (64 * x12)) + x7) - x6 ≤ 2147483647)
    (o20 : ¬ h 104 0 < x12 → ¬ x5 ≤ 0 → ¬ x7 < x6 → ((x12 - x6).natAbs : Int) ≤ h 104 3 → 0 ≤ (((640 * ((x4 - x5) + 1)) + (64 * x12)) + x7) - x6 ∧ (((640 * ((x4 - x5) + 1)) + (64 * x12)) + x7) - x6 < 4480)
    (o21 : ¬ h 104 0 < x12 → ¬ x5 ≤ 0 → ¬ x7 < x6 → ((x12 - x6).natAbs : Int) ≤ h 104 3 → -9223372036854775808 ≤ y10 + (h 117 ((((640 * ((x4 - x5) + 1)) + (64 * x12)) + x7) - x6).toNat) ∧ y10 + (h 117 ((((640 * ((x4 - x5) + 1)) + (64 * x12)) + x7) - x6).toNat) ≤ 9223372036854775807)
    (o22 : ¬ h 104 0 < x12 → ¬ x5 ≤ 0 → ¬ x7 < x6 → ((x12 - x6).natAbs : Int) ≤ h 104 3 → -2147483648 ≤ x12 + 1 ∧ x12 + 1 ≤ 2147483647)
    (k23 : ¬ h 104 0 < x12 → ¬ x5 ≤ 0 → ¬ x7 < x6 → ((x12 - x6).natAbs : Int) ≤ h 104 3 → Wp true i_M_laysLines 72 [vr 103, vi x1, vj y2, vr 9999, vi x4, vi x5, vi x6, vi x7, vj (y8 + (h 116 ((((640 * (x5 - 1)) + (64 * x12)) + x7) - x6).toNat)), vr 9999, vj (y10 + (h 117 ((((640 * ((x4 - x5) + 1)) + (64 * x12)) + x7) - x6).toNat)), vr 9999, vi (x12 + 1)] [] h Q)
    (o24 : ¬ h 104 0 < x12 → ¬ x5 ≤ 0 → ¬ x7 < x6 → ¬ ((x12 - x6).natAbs : Int) ≤ h 104 3 → -2147483648 ≤ x12 + 1 ∧ x12 + 1 ≤ 2147483647)
    (k25 : ¬ h 104 0 < x12 → ¬ x5 ≤ 0 → ¬ x7 < x6 → ¬ ((x12 - x6).natAbs : Int) ≤ h 104 3 → Wp true i_M_laysLines 72 [vr 103, vi x1, vj y2, vr 9999, vi x4, vi x5, vi x6, vi x7, vj y8, vr 9999, vj y10, vr 9999, vi (x12 + 1)] [] h Q) :
    Wp true i_M_laysLines 72 [vr 103, vi x1, vj y2, vr 9999, vi x4, vi x5, vi x6, vi x7, vj y8, vr 9999, vj y10, vr 9999, vi x12] [] h Q := by
  refine r_iload (v := x12) f_351_72 rfl ?_
  refine r_aload_n (v := 103) f_351_74 rfl (by decide) ?_
  refine r_getr (q := 104) f_351_75 rfl (by decide) (Or.inl rfl) rfl ?_
  refine r_iconst f_351_78 (by decide) ?_
  refine r_iaload (n := 3000) (v := h 104 0) f_351_79 ⟨rfl, rfl⟩ (by decide) rfl ?_
  refine r_br2 (t := 184) f_351_80 rfl cb_gt (fun c1 => ?_) (fun c1 => ?_)
  · exact (k1 c1)
  · refine r_iload (v := x5) f_351_83 rfl ?_
    refine r_br (t := 184) f_351_85 rfl cb_le (fun c2 => ?_) (fun c2 => ?_)
    · exact (k2 c1 c2)
    · refine r_iload (v := x7) f_351_88 rfl ?_
      refine r_iload (v := x6) f_351_90 rfl ?_
      refine r_br2 (t := 184) f_351_92 rfl cb_lt (fun c3 => ?_) (fun c3 => ?_)
      · exact (k3 c1 c2 c3)
      · refine r_iload (v := x12) f_351_95 rfl ?_
        refine r_iload (v := x6) f_351_97 rfl ?_
        refine r_isub (u := x12 - x6) f_351_99 rfl (o4 c1 c2 c3) ?_
        refine r_calls (as := [vi (x12 - x6)]) (st' := []) (ls0 := [vi (x12 - x6)]) f_351_100 (by decide) (by decide) rfl rfl (Nat.le_of_ble_eq_true rfl) (Nat.le_of_ble_eq_true rfl) rfl ?_
        refine c_Ma_abs (o5 c1 c2 c3) ?_
        show Wp true i_M_laysLines 103 [vr 103, vi x1, vj y2, vr 9999, vi x4, vi x5, vi x6, vi x7, vj y8, vr 9999, vj y10, vr 9999, vi x12] [vi ((x12 - x6).natAbs : Int)] h Q
        refine r_aload_n (v := 103) f_351_103 rfl (by decide) ?_
        refine r_getr (q := 104) f_351_104 rfl (by decide) (Or.inl rfl) rfl ?_
        refine r_iconst f_351_107 (by decide) ?_
        refine r_iaload (n := 3000) (v := h 104 3) f_351_108 ⟨rfl, rfl⟩ (by decide) rfl ?_
        refine r_br2 (t := 115) f_351_109 rfl cb_le (fun c4 => ?_) (fun c4 => ?_)
        · refine r_lload (v := y8) f_351_115 rfl ?_
          refine r_aload_n (v := 103) f_351_117 rfl (by decide) ?_
          refine r_getr (q := 116) f_351_118 rfl (by decide) (Or.inl rfl) rfl ?_
          refine r_sipush f_351_121 (by decide) ?_
          refine r_iload (v := x5) f_351_124 rfl ?_
          refine r_iconst f_351_126 (by decide) ?_
          refine r_isub (u := x5 - 1) f_351_127 rfl (o6 c1 c2 c3 c4) ?_
          refine r_imul (u := 640 * (x5 - 1)) f_351_128 rfl (o7 c1 c2 c3 c4) ?_
          refine r_bipush f_351_129 (by decide) ?_
          refine r_iload (v := x12) f_351_131 rfl ?_
          refine r_imul (u := 64 * x12) f_351_133 rfl (o8 c1 c2 c3 c4) ?_
          refine r_iadd (u := (640 * (x5 - 1)) + (64 * x12)) f_351_134 rfl (o9 c1 c2 c3 c4) ?_
          refine r_iload (v := x7) f_351_135 rfl ?_
          refine r_iadd (u := ((640 * (x5 - 1)) + (64 * x12)) + x7) f_351_137 rfl (o10 c1 c2 c3 c4) ?_
          refine r_iload (v := x6) f_351_138 rfl ?_
          refine r_isub (u := (((640 * (x5 - 1)) + (64 * x12)) + x7) - x6) f_351_140 rfl (o11 c1 c2 c3 c4) ?_
          refine r_laload (n := 4480) (v := h 116 ((((640 * (x5 - 1)) + (64 * x12)) + x7) - x6).toNat) f_351_141 ⟨rfl, rfl⟩ (o12 c1 c2 c3 c4) rfl ?_
          refine r_ladd (u := y8 + (h 116 ((((640 * (x5 - 1)) + (64 * x12)) + x7) - x6).toNat)) f_351_142 rfl (o13 c1 c2 c3 c4) ?_
          refine r_lstore (ls' := [vr 103, vi x1, vj y2, vr 9999, vi x4, vi x5, vi x6, vi x7, vj (y8 + (h 116 ((((640 * (x5 - 1)) + (64 * x12)) + x7) - x6).toNat)), vr 9999, vj y10, vr 9999, vi x12]) f_351_143 (Nat.le_of_ble_eq_true rfl) rfl ?_
          refine r_lload (v := y10) f_351_145 rfl ?_
          refine r_aload_n (v := 103) f_351_147 rfl (by decide) ?_
          refine r_getr (q := 117) f_351_148 rfl (by decide) (Or.inl rfl) rfl ?_
          refine r_sipush f_351_151 (by decide) ?_
          refine r_iload (v := x4) f_351_154 rfl ?_
          refine r_iload (v := x5) f_351_156 rfl ?_
          refine r_isub (u := x4 - x5) f_351_158 rfl (o14 c1 c2 c3 c4) ?_
          refine r_iconst f_351_159 (by decide) ?_
          refine r_iadd (u := (x4 - x5) + 1) f_351_160 rfl (o15 c1 c2 c3 c4) ?_
          refine r_imul (u := 640 * ((x4 - x5) + 1)) f_351_161 rfl (o16 c1 c2 c3 c4) ?_
          refine r_bipush f_351_162 (by decide) ?_
          refine r_iload (v := x12) f_351_164 rfl ?_
          refine r_imul (u := 64 * x12) f_351_166 rfl (o8 c1 c2 c3 c4) ?_
          refine r_iadd (u := (640 * ((x4 - x5) + 1)) + (64 * x12)) f_351_167 rfl (o17 c1 c2 c3 c4) ?_
          refine r_iload (v := x7) f_351_168 rfl ?_
          refine r_iadd (u := ((640 * ((x4 - x5) + 1)) + (64 * x12)) + x7) f_351_170 rfl (o18 c1 c2 c3 c4) ?_
          refine r_iload (v := x6) f_351_171 rfl ?_
          refine r_isub (u := (((640 * ((x4 - x5) + 1)) + (64 * x12)) + x7) - x6) f_351_173 rfl (o19 c1 c2 c3 c4) ?_
          refine r_laload (n := 4480) (v := h 117 ((((640 * ((x4 - x5) + 1)) + (64 * x12)) + x7) - x6).toNat) f_351_174 ⟨rfl, rfl⟩ (o20 c1 c2 c3 c4) rfl ?_
          refine r_ladd (u := y10 + (h 117 ((((640 * ((x4 - x5) + 1)) + (64 * x12)) + x7) - x6).toNat)) f_351_175 rfl (o21 c1 c2 c3 c4) ?_
          refine r_lstore (ls' := [vr 103, vi x1, vj y2, vr 9999, vi x4, vi x5, vi x6, vi x7, vj (y8 + (h 116 ((((640 * (x5 - 1)) + (64 * x12)) + x7) - x6).toNat)), vr 9999, vj (y10 + (h 117 ((((640 * ((x4 - x5) + 1)) + (64 * x12)) + x7) - x6).toNat)), vr 9999, vi x12]) f_351_176 (Nat.le_of_ble_eq_true rfl) rfl ?_
          refine r_iinc (v := x12) (w := x12 + 1) (ls' := [vr 103, vi x1, vj y2, vr 9999, vi x4, vi x5, vi x6, vi x7, vj (y8 + (h 116 ((((640 * (x5 - 1)) + (64 * x12)) + x7) - x6).toNat)), vr 9999, vj (y10 + (h 117 ((((640 * ((x4 - x5) + 1)) + (64 * x12)) + x7) - x6).toNat)), vr 9999, vi (x12 + 1)]) f_351_178 rfl rfl (o22 c1 c2 c3 c4) rfl ?_
          refine r_goto (t := 72) f_351_181 rfl ?_
          exact (k23 c1 c2 c3 c4)
        · refine r_goto (t := 178) f_351_112 rfl ?_
          refine r_iinc (v := x12) (w := x12 + 1) (ls' := [vr 103, vi x1, vj y2, vr 9999, vi x4, vi x5, vi x6, vi x7, vj y8, vr 9999, vj y10, vr 9999, vi (x12 + 1)]) f_351_178 rfl rfl (o24 c1 c2 c3 c4) rfl ?_
          refine r_goto (t := 72) f_351_181 rfl ?_
          exact (k25 c1 c2 c3 c4)

theorem g_M_laysLines_184 {Q : PQ} {h : HP} {x1 : Int} {y2 : Int} {x4 : Int} {x5 : Int} {x6 : Int} {x7 : Int} {y8 : Int} {y10 : Int} {x12 : Int} 
    (o1 : -2147483648 ≤ 640 * x5 ∧ 640 * x5 ≤ 2147483647)
    (o2 : -2147483648 ≤ 64 * x6 ∧ 64 * x6 ≤ 2147483647)
    (o3 : -2147483648 ≤ (640 * x5) + (64 * x6) ∧ (640 * x5) + (64 * x6) ≤ 2147483647)
    (o4 : -2147483648 ≤ ((640 * x5) + (64 * x6)) + x7 ∧ ((640 * x5) + (64 * x6)) + x7 ≤ 2147483647)
    (o5 : 0 ≤ ((640 * x5) + (64 * x6)) + x7 ∧ ((640 * x5) + (64 * x6)) + x7 < 4480)
    (o6 : -2147483648 ≤ x4 - x5 ∧ x4 - x5 ≤ 2147483647)
    (o7 : -2147483648 ≤ 640 * (x4 - x5) ∧ 640 * (x4 - x5) ≤ 2147483647)
    (o8 : -2147483648 ≤ (640 * (x4 - x5)) + (64 * x6) ∧ (640 * (x4 - x5)) + (64 * x6) ≤ 2147483647)
    (o9 : -2147483648 ≤ ((640 * (x4 - x5)) + (64 * x6)) + x7 ∧ ((640 * (x4 - x5)) + (64 * x6)) + x7 ≤ 2147483647)
    (o10 : 0 ≤ ((640 * (x4 - x5)) + (64 * x6)) + x7 ∧ ((640 * (x4 - x5)) + (64 * x6)) + x7 < 4480)
    (o11 : -2147483648 ≤ x7 + 1 ∧ x7 + 1 ≤ 2147483647)
    (k12 : Wp true i_M_laysLines 39 [vr 103, vi x1, vj y2, vr 9999, vi x4, vi x5, vi x6, vi (x7 + 1), vj y8, vr 9999, vj y10, vr 9999, vi x12] [] (hs (hs h 116 (((640 * x5) + (64 * x6)) + x7).toNat y8) 117 (((640 * (x4 - x5)) + (64 * x6)) + x7).toNat y10) Q) :
    Wp true i_M_laysLines 184 [vr 103, vi x1, vj y2, vr 9999, vi x4, vi x5, vi x6, vi x7, vj y8, vr 9999, vj y10, vr 9999, vi x12] [] h Q := by
  refine r_aload_n (v := 103) f_351_184 rfl (by decide) ?_
  refine r_getr (q := 116) f_351_185 rfl (by decide) (Or.inl rfl) rfl ?_
  refine r_sipush f_351_188 (by decide) ?_
  refine r_iload (v := x5) f_351_191 rfl ?_
  refine r_imul (u := 640 * x5) f_351_193 rfl o1 ?_
  refine r_bipush f_351_194 (by decide) ?_
  refine r_iload (v := x6) f_351_196 rfl ?_
  refine r_imul (u := 64 * x6) f_351_198 rfl o2 ?_
  refine r_iadd (u := (640 * x5) + (64 * x6)) f_351_199 rfl o3 ?_
  refine r_iload (v := x7) f_351_200 rfl ?_
  refine r_iadd (u := ((640 * x5) + (64 * x6)) + x7) f_351_202 rfl o4 ?_
  refine r_lload (v := y8) f_351_203 rfl ?_
  refine r_lastore (n := 4480) f_351_205 ⟨rfl, rfl⟩ o5 ?_
  refine r_aload_n (v := 103) f_351_206 rfl (by decide) ?_
  refine r_getr (q := 117) f_351_207 rfl (by decide) (Or.inl rfl) rfl ?_
  refine r_sipush f_351_210 (by decide) ?_
  refine r_iload (v := x4) f_351_213 rfl ?_
  refine r_iload (v := x5) f_351_215 rfl ?_
  refine r_isub (u := x4 - x5) f_351_217 rfl o6 ?_
  refine r_imul (u := 640 * (x4 - x5)) f_351_218 rfl o7 ?_
  refine r_bipush f_351_219 (by decide) ?_
  refine r_iload (v := x6) f_351_221 rfl ?_
  refine r_imul (u := 64 * x6) f_351_223 rfl o2 ?_
  refine r_iadd (u := (640 * (x4 - x5)) + (64 * x6)) f_351_224 rfl o8 ?_
  refine r_iload (v := x7) f_351_225 rfl ?_
  refine r_iadd (u := ((640 * (x4 - x5)) + (64 * x6)) + x7) f_351_227 rfl o9 ?_
  refine r_lload (v := y10) f_351_228 rfl ?_
  refine r_lastore (n := 4480) f_351_230 ⟨rfl, rfl⟩ o10 ?_
  refine r_iinc (v := x7) (w := x7 + 1) (ls' := [vr 103, vi x1, vj y2, vr 9999, vi x4, vi x5, vi x6, vi (x7 + 1), vj y8, vr 9999, vj y10, vr 9999, vi x12]) f_351_231 rfl rfl o11 rfl ?_
  refine r_goto (t := 39) f_351_234 rfl ?_
  exact k12

def LX (k l n k' l' n' : Nat) : Prop := k' < k ∨ (k' = k ∧ (l' < l ∨ (l' = l ∧ n' < n)))
def TU (R : HP) (g : HP) (P : Nat → Nat → Nat → Prop) : Prop := ∀ k l n : Nat, (k : Int) < R 0 1 → (l : Int) ≤ R 0 0 → n ≤ 63 → P k l n → g 116 (640 * k + 64 * l + n) = upL R k l n ∧ g 117 (640 * ((R 0 1).toNat - 1 - k) + 64 * l + n) = upL R k l n
noncomputable def lyS (R : HP) (b k l : Nat) : Int := if (k : Int) + 1 = R 0 1 then sumF (fun c => upL R k c b) l 0 else 0
theorem c_M_laysLines {Q : PQ} {g R : HP} {b : Nat} (eR : rmM g 0 = R) (W : WR R) (hb : b ≤ 63) (hd : 0 < R 0 1)
    (kk : ∀ g', (∀ k, k ≠ 116 → k ≠ 117 → g' k = g k) → TU R g' (fun _ _ _ => True) → Q (some (vj (liN R b))) g') : Wp true i_M_laysLines 0 [vr 103, vi (b : Int), vr 9999, vr 9999, vr 9999, vr 9999, vr 9999, vr 9999, vr 9999, vr 9999, vr 9999, vr 9999, vr 9999] [] g Q := by
  have w := W.1
  have d0 := mdim eR
  have fr : ∀ h1 : HP, (∀ k, k ≠ 116 → k ≠ 117 → h1 k = g k) → rmM h1 0 = R := fun h1 f => (rmM_congr (f 104 (by decide) (by decide))).trans eR
  have lyb : ∀ k l : Nat, k ≤ 6 → l ≤ 10 → 0 ≤ lyS R b k l ∧ lyS R b k l ≤ 10000000 := by
    intro k l h1 h2
    unfold lyS
    have sr := sumF_rng (f := fun c => upL R k c b) (a := 0) (b := 1000000) l 0 (fun j _ _ => upL_b W h1)
    split <;> omega
  -- the boards n
  have ns : ∀ (d n l k : Nat) (h1 : HP) (j8 j10 j12 : AV), n + d = 64 → (l : Int) ≤ R 0 0 → (k : Int) < R 0 1 → (∀ k, k ≠ 116 → k ≠ 117 → h1 k = g k) → TU R h1 (LX k l n) →
      (∀ (h2 : HP) (j7 j8 j10 j12 : AV), (∀ k, k ≠ 116 → k ≠ 117 → h2 k = g k) → TU R h2 (LX k (l + 1) 0) → Wp true i_M_laysLines 25 [vr 103, vi (b : Int), vj (lyS R b k (l + 1)), vr 9999, vi (R 0 1 - 1), vi (k : Int), vi ((l : Int) + 1), j7, j8, vr 9999, j10, vr 9999, j12] [] h2 Q) →
      Wp true i_M_laysLines 39 [vr 103, vi (b : Int), vj (lyS R b k l), vr 9999, vi (R 0 1 - 1), vi (k : Int), vi (l : Int), vi (n : Int), j8, vr 9999, j10, vr 9999, j12] [] h1 Q := by
    intro d
    induction d with
    | zero =>
      intro n l k h1 j8 j10 j12 e hl hk f T nxt
      have T2 : TU R h1 (LX k (l + 1) 0) := fun k' l' n' a1 a2 a3 q => T k' l' n' a1 a2 a3 (by unfold LX at q ⊢; omega)
      have ly := lyb k l (by omega) (by omega)
      have nx := fun j7 j8 j10 j12 => nxt h1 j7 j8 j10 j12 f T2
      refine g_M_laysLines_39 (fun _ _ => by omega) (fun _ _ => by omega) (fun _ z => ?_) (fun _ _ => by omega) (fun _ _ => by omega) (fun _ _ => by omega) (fun _ _ => by omega) (fun _ _ => by omega) (fun _ z => ?_) (fun _ _ => by omega) (fun _ z => ?_) (fun q => by omega) (fun q => by omega) (fun q => by omega)
      · have e2 : lyS R b k (l + 1) = lyS R b k l + 0 := by
          unfold lyS; rw [if_neg (by omega), if_neg (by omega)]; rfl
        rw [e2] at nx
        exact nx _ _ _ _
      · have v := (T k l b hk hl hb (by unfold LX; omega)).1
        have ub := upL_b W (k := k) (l := l) (n := b) (by omega)
        rw [show (640 * (k : Int) + 64 * (l : Int) + (b : Int)).toNat = 640 * k + 64 * l + b by omega, v]
        omega
      · have v := (T k l b hk hl hb (by unfold LX; omega)).1
        have e2 : lyS R b k (l + 1) = lyS R b k l + upL R k l b := by
          unfold lyS; rw [if_pos (by omega), if_pos (by omega), sumF_last]
        rw [e2] at nx
        rw [show (640 * (k : Int) + 64 * (l : Int) + (b : Int)).toNat = 640 * k + 64 * l + b by omega, v]
        exact nx _ _ _ _
    | succ d ih =>
      intro n l k h1 j8 j10 j12 e hl hk f T nxt
      have dd := mdim (fr h1 f)
      have b184 : ∀ (y x12 : Int), y = upL R k l n → Wp true i_M_laysLines 184 [vr 103, vi (b : Int), vj (lyS R b k l), vr 9999, vi (R 0 1 - 1), vi (k : Int), vi (l : Int), vi (n : Int), vj y, vr 9999, vj y, vr 9999, vi x12] [] h1 Q := by
        intro y x12 hy
        refine g_M_laysLines_184 (by omega) (by omega) (by omega) (by omega) (by omega) (by omega) (by omega) (by omega) (by omega) (by omega) (by omega) ?_
        rw [show (640 * (k : Int) + 64 * (l : Int) + (n : Int)).toNat = 640 * k + 64 * l + n by omega, show (640 * (R 0 1 - 1 - (k : Int)) + 64 * (l : Int) + (n : Int)).toNat = 640 * ((R 0 1).toNat - 1 - k) + 64 * l + n by omega]
        refine ih (n + 1) l k _ _ _ _ (by omega) hl hk (fun a a1 a2 => ((hs_ne a2).trans (hs_ne a1)).trans (f a a1 a2)) (fun k' l' n' a1 a2 a3 q => ?_) nxt
        by_cases z : k' = k ∧ l' = l ∧ n' = n
        · obtain ⟨rfl, rfl, rfl⟩ := z
          rw [hs_s, hs_ne (by decide), hs_s]
          exact ⟨hy, hy⟩
        · rw [hs_ne (k' := 116) (by decide), hs_o (Or.inr (by omega)), hs_o (k' := 117) (Or.inr (by omega)), hs_ne (k' := 117) (by decide)]
          exact T k' l' n' a1 a2 a3 (by unfold LX at q ⊢; omega)
      by_cases hk0 : k = 0
      · subst hk0
        have ex : ∀ (y : Int), y = upL R 0 l n → Wp true i_M_laysLines 72 [vr 103, vi (b : Int), vj (lyS R b 0 l), vr 9999, vi (R 0 1 - 1), vi ((0 : Nat) : Int), vi (l : Int), vi (n : Int), vj y, vr 9999, vj y, vr 9999, vi 0] [] h1 Q := by
          intro y hy
          have fin := b184 y 0 hy
          exact g_M_laysLines_72 (fun _ => fin) (fun _ _ => fin) (fun _ _ _ => fin) (fun _ q => absurd (by decide) q) (fun _ q => absurd (by decide) q) (fun _ q => absurd (by decide) q) (fun _ q => absurd (by decide) q) (fun _ q => absurd (by decide) q) (fun _ q => absurd (by decide) q) (fun _ q => absurd (by decide) q) (fun _ q => absurd (by decide) q) (fun _ q => absurd (by decide) q) (fun _ q => absurd (by decide) q) (fun _ q => absurd (by decide) q) (fun _ q => absurd (by decide) q) (fun _ q => absurd (by decide) q) (fun _ q => absurd (by decide) q) (fun _ q => absurd (by decide) q) (fun _ q => absurd (by decide) q) (fun _ q => absurd (by decide) q) (fun _ q => absurd (by decide) q) (fun _ q => absurd (by decide) q) (fun _ q => absurd (by decide) q) (fun _ q => absurd (by decide) q) (fun _ q => absurd (by decide) q)
        refine g_M_laysLines_39 (fun q => by omega) (fun q => by omega) (fun q => by omega) (fun q => by omega) (fun q => by omega) (fun q => by omega) (fun q => by omega) (fun q => by omega) (fun q => by omega) (fun q => by omega) (fun q => by omega) (fun _ q => absurd (by decide) q) (fun _ _ z => ?_) (fun _ _ z => ?_)
        · exact ex 0 (by simp only [upL]; rw [if_neg (by omega)])
        · exact ex 1 (by simp only [upL]; rw [if_pos (by omega)])
      · obtain ⟨m, rfl⟩ : ∃ m, k = m + 1 := ⟨k - 1, by omega⟩
        have st : Wp true i_M_laysLines 72 [vr 103, vi (b : Int), vj (lyS R b (m + 1) l), vr 9999, vi (R 0 1 - 1), vi ((m + 1 : Nat) : Int), vi (l : Int), vi (n : Int), vj 0, vr 9999, vj 0, vr 9999, vi 0] [] h1 Q := by
          by_cases z : l ≤ n
          · have os : ∀ (d o : Nat), (o : Int) + d = R 0 0 + 1 → Wp true i_M_laysLines 72 [vr 103, vi (b : Int), vj (lyS R b (m + 1) l), vr 9999, vi (R 0 1 - 1), vi ((m + 1 : Nat) : Int), vi (l : Int), vi (n : Int), vj (sumF (fun o => cho (nearK R l o) (upL R m o (n - l)) 0) o 0), vr 9999, vj (sumF (fun o => cho (nearK R l o) (upL R m o (n - l)) 0) o 0), vr 9999, vi (o : Int)] [] h1 Q := by
              intro d
              induction d with
              | zero =>
                intro o e
                have fin := b184 (sumF (fun o => cho (nearK R l o) (upL R m o (n - l)) 0) o 0) (o : Int) (by simp only [upL]; rw [if_pos z, show (R 0 0).toNat + 1 = o by omega])
                exact g_M_laysLines_72 (fun _ => fin) (fun q => by omega) (fun q => by omega) (fun q => by omega) (fun q => by omega) (fun q => by omega) (fun q => by omega) (fun q => by omega) (fun q => by omega) (fun q => by omega) (fun q => by omega) (fun q => by omega) (fun q => by omega) (fun q => by omega) (fun q => by omega) (fun q => by omega) (fun q => by omega) (fun q => by omega) (fun q => by omega) (fun q => by omega) (fun q => by omega) (fun q => by omega) (fun q => by omega) (fun q => by omega) (fun q => by omega)
              | succ d ih2 =>
                intro o e
                have nx := ih2 (o + 1) (by omega)
                rw [sumF_last] at nx
                have v := T m o (n - l) (by omega) (by omega) (by omega) (by unfold LX; omega)
                have ub := upL_b W (k := m) (l := o) (n := n - l) (by omega)
                have sr := sumF_rng (f := fun o => cho (nearK R l o) (upL R m o (n - l)) 0) (a := 0) (b := 1000000) o 0 (fun j _ _ => by
                  have := upL_b W (k := m) (l := j) (n := n - l) (by omega)
                  by_cases y : nearK R l j
                  · simp only [cho_t y]; exact this
                  · simp only [cho_f y]; omega)
                have ix : (640 * (((m + 1 : Nat) : Int) - 1) + 64 * (o : Int) + (n : Int) - (l : Int)).toNat = 640 * m + 64 * o + (n - l) := by omega
                have iy : (640 * (R 0 1 - 1 - ((m + 1 : Nat) : Int) + 1) + 64 * (o : Int) + (n : Int) - (l : Int)).toNat = 640 * ((R 0 1).toNat - 1 - m) + 64 * o + (n - l) := by omega
                refine g_M_laysLines_72 (fun q => by omega) (fun _ q => by omega) (fun _ _ q => by omega) (fun _ _ _ => by omega) (fun _ _ _ => by omega) (fun _ _ _ _ => by omega) (fun _ _ _ _ => by omega) (fun _ _ _ _ => by omega) (fun _ _ _ _ => by omega) (fun _ _ _ _ => by omega) (fun _ _ _ _ => by omega) (fun _ _ _ _ => by omega) (fun _ _ _ _ => by rw [ix, v.1]; omega) (fun _ _ _ _ => by omega) (fun _ _ _ _ => by omega) (fun _ _ _ _ => by omega) (fun _ _ _ _ => by omega) (fun _ _ _ _ => by omega) (fun _ _ _ _ => by omega) (fun _ _ _ _ => by omega) (fun _ _ _ _ => by rw [iy, v.2]; omega) (fun _ _ _ _ => by omega) (fun _ _ _ q => ?_) (fun _ _ _ _ => by omega) (fun _ _ _ q => ?_)
                · rw [cho_t (show nearK R l o by unfold nearK; omega)] at nx
                  rw [ix, iy, v.1, v.2]
                  exact nx
                · rw [cho_f (show ¬ nearK R l o by unfold nearK; omega), Int.add_zero] at nx
                  exact nx
            exact os ((R 0 0).toNat + 1) 0 (by omega)
          · have fin := b184 0 0 (upL_lo z).symm
            exact g_M_laysLines_72 (fun _ => fin) (fun _ _ => fin) (fun _ _ _ => fin) (fun _ _ q => by omega) (fun _ _ q => by omega) (fun _ _ q => by omega) (fun _ _ q => by omega) (fun _ _ q => by omega) (fun _ _ q => by omega) (fun _ _ q => by omega) (fun _ _ q => by omega) (fun _ _ q => by omega) (fun _ _ q => by omega) (fun _ _ q => by omega) (fun _ _ q => by omega) (fun _ _ q => by omega) (fun _ _ q => by omega) (fun _ _ q => by omega) (fun _ _ q => by omega) (fun _ _ q => by omega) (fun _ _ q => by omega) (fun _ _ q => by omega) (fun _ _ q => by omega) (fun _ _ q => by omega) (fun _ _ q => by omega)
        exact g_M_laysLines_39 (fun q => by omega) (fun q => by omega) (fun q => by omega) (fun q => by omega) (fun q => by omega) (fun q => by omega) (fun q => by omega) (fun q => by omega) (fun q => by omega) (fun q => by omega) (fun q => by omega) (fun _ _ => st) (fun _ q => by omega) (fun _ q => by omega)
  have ls : ∀ (d l k : Nat) (h1 : HP) (j7 j8 j10 j12 : AV), (l : Int) + d = R 0 0 + 1 → (k : Int) < R 0 1 → (∀ k, k ≠ 116 → k ≠ 117 → h1 k = g k) → TU R h1 (LX k l 0) →
      (∀ (h2 : HP) (j6 j7 j8 j10 j12 : AV), (∀ k, k ≠ 116 → k ≠ 117 → h2 k = g k) → TU R h2 (LX (k + 1) 0 0) → Wp true i_M_laysLines 15 [vr 103, vi (b : Int), vj (lyS R b k ((R 0 0).toNat + 1)), vr 9999, vi (R 0 1 - 1), vi ((k : Int) + 1), j6, j7, j8, vr 9999, j10, vr 9999, j12] [] h2 Q) →
      Wp true i_M_laysLines 25 [vr 103, vi (b : Int), vj (lyS R b k l), vr 9999, vi (R 0 1 - 1), vi (k : Int), vi (l : Int), j7, j8, vr 9999, j10, vr 9999, j12] [] h1 Q := by
    intro d
    induction d with
    | zero =>
      intro l k h1 j7 j8 j10 j12 e hk f T nxt
      have dd := mdim (fr h1 f)
      have T2 : TU R h1 (LX (k + 1) 0 0) := fun k' l' n' a1 a2 a3 q => T k' l' n' a1 a2 a3 (by unfold LX at q ⊢; omega)
      have nx := fun j6 j7 j8 j10 j12 => nxt h1 j6 j7 j8 j10 j12 f T2
      rw [show (R 0 0).toNat + 1 = l by omega] at nx
      exact g_M_laysLines_25 (fun _ => by omega) (fun _ => nx _ _ _ _ _) (fun q => by omega)
    | succ d ih =>
      intro l k h1 j7 j8 j10 j12 e hk f T nxt
      have dd := mdim (fr h1 f)
      refine g_M_laysLines_25 (fun q => by omega) (fun q => by omega) (fun _ => ?_)
      exact ns 64 0 l k h1 _ _ _ (by omega) (by omega) hk f T (fun h2 j7 j8 j10 j12 f2 T2 => ih (l + 1) k h2 j7 j8 j10 j12 (by omega) hk f2 T2 nxt)
  have ks : ∀ (d k : Nat) (h1 : HP) (j6 j7 j8 j10 j12 : AV), (k : Int) + 1 + d = R 0 1 → (∀ k, k ≠ 116 → k ≠ 117 → h1 k = g k) → TU R h1 (LX k 0 0) → Wp true i_M_laysLines 15 [vr 103, vi (b : Int), vj 0, vr 9999, vi (R 0 1 - 1), vi (k : Int), j6, j7, j8, vr 9999, j10, vr 9999, j12] [] h1 Q := by
    intro d
    induction d with
    | zero =>
      intro k h1 j6 j7 j8 j10 j12 e f T
      refine g_M_laysLines_15 (fun q => by omega) (fun _ => ?_)
      have st := ls ((R 0 0).toNat + 1) 0 k h1 j7 j8 j10 j12 (by omega) (by omega) f T (fun h2 j6 j7 j8 j10 j12 f2 T2 => by
        have k2 := kk h2 f2 (fun k' l' n' a1 a2 a3 _ => T2 k' l' n' a1 a2 a3 (by unfold LX; omega))
        unfold liN at k2
        rw [if_pos hd, show (R 0 1).toNat - 1 = k by omega] at k2
        have e2 : lyS R b k ((R 0 0).toNat + 1) = sumF (fun c => upL R k c b) ((R 0 0).toNat + 1) 0 := by unfold lyS; rw [if_pos (by omega)]
        rw [e2]
        exact g_M_laysLines_15 (fun _ => k2) (fun q => by omega))
      rw [show lyS R b k 0 = 0 by unfold lyS; split <;> rfl] at st
      exact st
    | succ d ih =>
      intro k h1 j6 j7 j8 j10 j12 e f T
      refine g_M_laysLines_15 (fun q => by omega) (fun _ => ?_)
      have st := ls ((R 0 0).toNat + 1) 0 k h1 j7 j8 j10 j12 (by omega) (by omega) f T (fun h2 j6 j7 j8 j10 j12 f2 T2 => by
        have nx := ih (k + 1) h2 j6 j7 j8 j10 j12 (by omega) f2 T2
        have e2 : lyS R b k ((R 0 0).toNat + 1) = 0 := by unfold lyS; rw [if_neg (by omega)]
        rw [e2]
        exact nx)
      rw [show lyS R b k 0 = 0 by unfold lyS; split <;> rfl] at st
      exact st
  refine g_M_laysLines_0 (by omega) ?_
  rw [d0.2.1]
  exact ks ((R 0 1).toNat - 1) 0 g _ _ _ _ _ (by omega) (fun _ _ _ => rfl) (fun k' l' n' a1 a2 a3 q => by unfold LX at q; omega)
