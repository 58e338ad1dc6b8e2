theorem g_C_status_0 {Q : PQ} {h : HP}  
    (k1 : Q (some (vi (h 0 0))) h) :
    Wp true i_C_status 0 [vr 0] [] h Q := by
  refine r_aload_n (v := 0) f_142_0 rfl (by decide) ?_
  refine r_geti (v := h 0 0) f_142_1 rfl (by decide) rfl ?_
  exact r_reti f_142_4 rfl k1

theorem g_M_status_0 {Q : PQ} {h : HP}  
    (k1 : Q (some (vi (h 103 2))) h) :
    Wp true i_M_status 0 [vr 103] [] h Q := by
  refine r_aload_n (v := 103) f_223_0 rfl (by decide) ?_
  refine r_geti (v := h 103 2) f_223_1 rfl (by decide) rfl ?_
  exact r_reti f_223_4 rfl k1

theorem A_status {n : Nat} {h : HP} (hR : Rel n h) : Agree n h i_C_status i_M_status [vr 0] [vr 103] :=
  ⟨vi (h 0 0), fun h1 => h1 = h, fun h1 e => by subst e; exact ⟨rfl, rfl⟩, fun Q k => g_C_status_0 (k h rfl), fun h1 Q e k => by
    subst e
    refine g_M_status_0 ?_
    rw [← hR.1]
    exact k _ (Rel_up hR) rfl rfl⟩

theorem g_C_top_0 {Q : PQ} {h : HP}  
    (k1 : Q (some (vj (h 0 1))) h) :
    Wp true i_C_top 0 [vr 0] [] h Q := by
  refine r_aload_n (v := 0) f_143_0 rfl (by decide) ?_
  refine r_getj (v := h 0 1) f_143_1 rfl (by decide) rfl ?_
  exact r_retj f_143_4 rfl k1

theorem g_M_top_0 {Q : PQ} {h : HP}  
    (k1 : Q (some (vj (h 103 3))) h) :
    Wp true i_M_top 0 [vr 103] [] h Q := by
  refine r_aload_n (v := 103) f_224_0 rfl (by decide) ?_
  refine r_getj (v := h 103 3) f_224_1 rfl (by decide) rfl ?_
  exact r_retj f_224_4 rfl k1

theorem A_top {n : Nat} {h : HP} (hR : Rel n h) : Agree n h i_C_top i_M_top [vr 0] [vr 103] :=
  ⟨vj (h 0 1), fun h1 => h1 = h, fun h1 e => by subst e; exact ⟨rfl, rfl⟩, fun Q k => g_C_top_0 (k h rfl), fun h1 Q e k => by
    subst e
    refine g_M_top_0 ?_
    rw [← hR.2.1]
    exact k _ (Rel_up hR) rfl rfl⟩

theorem g_C_bottom_0 {Q : PQ} {h : HP}  
    (k1 : Q (some (vj (h 0 2))) h) :
    Wp true i_C_bottom 0 [vr 0] [] h Q := by
  refine r_aload_n (v := 0) f_144_0 rfl (by decide) ?_
  refine r_getj (v := h 0 2) f_144_1 rfl (by decide) rfl ?_
  exact r_retj f_144_4 rfl k1

theorem g_M_bottom_0 {Q : PQ} {h : HP}  
    (k1 : Q (some (vj (h 103 4))) h) :
    Wp true i_M_bottom 0 [vr 103] [] h Q := by
  refine r_aload_n (v := 103) f_225_0 rfl (by decide) ?_
  refine r_getj (v := h 103 4) f_225_1 rfl (by decide) rfl ?_
  exact r_retj f_225_4 rfl k1

theorem A_bottom {n : Nat} {h : HP} (hR : Rel n h) : Agree n h i_C_bottom i_M_bottom [vr 0] [vr 103] :=
  ⟨vj (h 0 2), fun h1 => h1 = h, fun h1 e => by subst e; exact ⟨rfl, rfl⟩, fun Q k => g_C_bottom_0 (k h rfl), fun h1 Q e k => by
    subst e
    refine g_M_bottom_0 ?_
    rw [← hR.2.2.1]
    exact k _ (Rel_up hR) rfl rfl⟩

theorem g_C_fault_0 {Q : PQ} {h : HP} {x1 : Int} 
    (k1 : ¬ x1 = 0 → ¬ x1 = 1 → Q (some (vi (-1))) h)
    (k2 : ¬ x1 = 0 → x1 = 1 → Q (some (vi (h 5 4))) h)
    (k3 : x1 = 0 → Q (some (vi (h 5 3))) h) :
    Wp true i_C_fault 0 [vr 0, vi x1] [] h Q := by
  refine r_iload_n (v := x1) f_152_0 rfl ?_
  refine r_br (t := 12) f_152_1 rfl cb_ne (fun c1 => ?_) (fun c1 => ?_)
  · refine r_iload_n (v := x1) f_152_12 rfl ?_
    refine r_iconst f_152_13 (by decide) ?_
    refine r_br2 (t := 27) f_152_14 rfl cb_ne (fun c2 => ?_) (fun c2 => ?_)
    · refine r_iconst f_152_27 (by decide) ?_
      exact r_reti f_152_28 rfl (k1 c1 c2)
    · have c2 := Decidable.not_not.mp c2
      refine r_aload_n (v := 0) f_152_17 rfl (by decide) ?_
      refine r_getr (q := 5) f_152_18 rfl (by decide) (Or.inl rfl) rfl ?_
      refine r_geti (v := h 5 4) f_152_21 rfl (by decide) rfl ?_
      refine r_goto (t := 28) f_152_24 rfl ?_
      exact r_reti f_152_28 rfl (k2 c1 c2)
  · have c1 := Decidable.not_not.mp c1
    refine r_aload_n (v := 0) f_152_4 rfl (by decide) ?_
    refine r_getr (q := 5) f_152_5 rfl (by decide) (Or.inl rfl) rfl ?_
    refine r_geti (v := h 5 3) f_152_8 rfl (by decide) rfl ?_
    exact r_reti f_152_11 rfl (k3 c1)

theorem g_M_fault_0 {Q : PQ} {h : HP} {x1 : Int} 
    (k1 : ¬ x1 = 0 → ¬ x1 = 1 → Q (some (vi (-1))) h)
    (k2 : ¬ x1 = 0 → x1 = 1 → Q (some (vi (h 103 17))) h)
    (k3 : x1 = 0 → Q (some (vi (h 103 16))) h) :
    Wp true i_M_fault 0 [vr 103, vi x1] [] h Q := by
  refine r_iload_n (v := x1) f_255_0 rfl ?_
  refine r_br (t := 11) f_255_1 rfl cb_ne (fun c1 => ?_) (fun c1 => ?_)
  · refine r_iload_n (v := x1) f_255_11 rfl ?_
    refine r_iconst f_255_12 (by decide) ?_
    refine r_br2 (t := 23) f_255_13 rfl cb_ne (fun c2 => ?_) (fun c2 => ?_)
    · refine r_iconst f_255_23 (by decide) ?_
      exact r_reti f_255_24 rfl (k1 c1 c2)
    · have c2 := Decidable.not_not.mp c2
      refine r_aload_n (v := 103) f_255_16 rfl (by decide) ?_
      refine r_geti (v := h 103 17) f_255_17 rfl (by decide) rfl ?_
      refine r_goto (t := 24) f_255_20 rfl ?_
      exact r_reti f_255_24 rfl (k2 c1 c2)
  · have c1 := Decidable.not_not.mp c1
    refine r_aload_n (v := 103) f_255_4 rfl (by decide) ?_
    refine r_geti (v := h 103 16) f_255_5 rfl (by decide) rfl ?_
    refine r_goto (t := 24) f_255_8 rfl ?_
    exact r_reti f_255_24 rfl (k3 c1)

theorem A_fault {n : Nat} {h : HP} {x1 : Int} (hR : Rel n h) : Agree n h i_C_fault i_M_fault [vr 0, vi x1] [vr 103, vi x1] := by
  refine ⟨vi (if x1 = 0 then h 5 3 else if x1 = 1 then h 5 4 else -1), fun h1 => h1 = h, fun h1 e => by subst e; exact ⟨rfl, rfl⟩, fun Q k => ?_, fun h1 Q e k => ?_⟩
  · have k := k h rfl
    refine g_C_fault_0 ?_ ?_ ?_
    · intro c1 c2; (try simp only [Int.toNat_natCast] at c1 c2); first | (exfalso; omega) | (rw [if_neg c1, if_neg c2] at k; exact k)
    · intro c1 c2; (try simp only [Int.toNat_natCast] at c1 c2); first | (exfalso; omega) | (rw [if_neg c1, if_pos c2] at k; exact k)
    · intro c1; (try simp only [Int.toNat_natCast] at c1); first | (exfalso; omega) | (rw [if_pos c1] at k; exact k)
  · subst e
    have k := k _ (Rel_up hR) rfl rfl
    have e1 := hR.2.2.2.2.1.2.2.2.2.1
    have e2 := hR.2.2.2.2.1.2.2.2.2.2
    rw [e1, e2] at k
    refine g_M_fault_0 ?_ ?_ ?_
    · intro c1 c2; (try simp only [Int.toNat_natCast] at c1 c2); first | (exfalso; omega) | (rw [if_neg c1, if_neg c2] at k; exact k)
    · intro c1 c2; (try simp only [Int.toNat_natCast] at c1 c2); first | (exfalso; omega) | (rw [if_neg c1, if_pos c2] at k; exact k)
    · intro c1; (try simp only [Int.toNat_natCast] at c1); first | (exfalso; omega) | (rw [if_pos c1] at k; exact k)
