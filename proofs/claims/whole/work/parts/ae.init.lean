theorem gc_Rr_init_0 {Q : PQ} {h : HP}  
    (k1 : Q none (hs (hs h 8 0 0) 8 1 0)) :
    Wp false i_Rr_init 0 [vr 8] [] h Q := by
  refine r_aload_n (v := 8) f_92_0 rfl (by decide) ?_
  refine r_objInit f_92_1 (by decide) ?_
  refine r_aload_n (v := 8) f_92_4 rfl (by decide) ?_
  refine r_iconst f_92_5 (by decide) ?_
  refine r_putz f_92_6 rfl (by decide) (by decide) ?_
  refine r_aload_n (v := 8) f_92_9 rfl (by decide) ?_
  refine r_iconst f_92_10 (by decide) ?_
  refine r_putz f_92_11 rfl (by decide) (by decide) ?_
  exact r_retv f_92_14 rfl k1

theorem gc_Tr_init_0 {Q : PQ} {h : HP}  
    (k1 : Q none (hs (hs h 9 0 0) 9 1 (-1))) :
    Wp false i_Tr_init 0 [vr 9] [] h Q := by
  refine r_aload_n (v := 9) f_106_0 rfl (by decide) ?_
  refine r_objInit f_106_1 (by decide) ?_
  refine r_aload_n (v := 9) f_106_4 rfl (by decide) ?_
  refine r_iconst f_106_5 (by decide) ?_
  refine r_puti f_106_6 rfl (by decide) ?_
  refine r_aload_n (v := 9) f_106_9 rfl (by decide) ?_
  refine r_iconst f_106_10 (by decide) ?_
  refine r_puti f_106_11 rfl (by decide) ?_
  exact r_retv f_106_14 rfl k1

theorem gc_Is_init_0 {Q : PQ} {h : HP}  
    (o1 : h 1002 0 = 83)
    (k2 : Q none (hs (hs (hs (hs (hs (hs (hs (hs (hs (hs (hs (hs (hs (hs (hs (hs (hs h 1002 0 84) 82 0 1) 1002 0 85) 82 1 1) 1002 0 86) 82 2 1) 1002 0 87) 82 3 1) 82 4 0) 1002 0 88) 82 5 1) 82 6 0) 1002 0 89) 82 7 1) 82 8 0) 82 9 (-1)) 82 10 0)) :
    Wp false i_Is_init 0 [vr 82] [] h Q := by
  refine r_aload_n (v := 82) f_59_0 rfl (by decide) ?_
  refine r_objInit f_59_1 (by decide) ?_
  refine r_aload_n (v := 82) f_59_4 rfl (by decide) ?_
  refine r_bipush f_59_5 (by decide) ?_
  refine r_newi (a := 83) f_59_7 rfl o1 ⟨rfl, by decide, rfl⟩ ?_
  refine r_putr f_59_9 rfl (by decide) rfl (by decide) rfl ?_
  refine r_aload_n (v := 82) f_59_12 rfl (by decide) ?_
  refine r_bipush f_59_13 (by decide) ?_
  refine r_newi (a := 84) f_59_15 rfl (by simp [hs]) ⟨rfl, by decide, rfl⟩ ?_
  refine r_putr f_59_17 rfl (by decide) rfl (by decide) rfl ?_
  refine r_aload_n (v := 82) f_59_20 rfl (by decide) ?_
  refine r_bipush f_59_21 (by decide) ?_
  refine r_newi (a := 85) f_59_23 rfl (by simp [hs]) ⟨rfl, by decide, rfl⟩ ?_
  refine r_putr f_59_25 rfl (by decide) rfl (by decide) rfl ?_
  refine r_aload_n (v := 82) f_59_28 rfl (by decide) ?_
  refine r_bipush f_59_29 (by decide) ?_
  refine r_newi (a := 86) f_59_31 rfl (by simp [hs]) ⟨rfl, by decide, rfl⟩ ?_
  refine r_putr f_59_33 rfl (by decide) rfl (by decide) rfl ?_
  refine r_aload_n (v := 82) f_59_36 rfl (by decide) ?_
  refine r_iconst f_59_37 (by decide) ?_
  refine r_puti f_59_38 rfl (by decide) ?_
  refine r_aload_n (v := 82) f_59_41 rfl (by decide) ?_
  refine r_bipush f_59_42 (by decide) ?_
  refine r_newi (a := 87) f_59_44 rfl (by simp [hs]) ⟨rfl, by decide, rfl⟩ ?_
  refine r_putr f_59_46 rfl (by decide) rfl (by decide) rfl ?_
  refine r_aload_n (v := 82) f_59_49 rfl (by decide) ?_
  refine r_iconst f_59_50 (by decide) ?_
  refine r_puti f_59_51 rfl (by decide) ?_
  refine r_aload_n (v := 82) f_59_54 rfl (by decide) ?_
  refine r_bipush f_59_55 (by decide) ?_
  refine r_newi (a := 88) f_59_57 rfl (by simp [hs]) ⟨rfl, by decide, rfl⟩ ?_
  refine r_putr f_59_59 rfl (by decide) rfl (by decide) rfl ?_
  refine r_aload_n (v := 82) f_59_62 rfl (by decide) ?_
  refine r_lconst (v := 0) f_59_63 rfl ?_
  refine r_putj f_59_64 rfl (by decide) ?_
  refine r_aload_n (v := 82) f_59_67 rfl (by decide) ?_
  refine r_iconst f_59_68 (by decide) ?_
  refine r_puti f_59_69 rfl (by decide) ?_
  refine r_aload_n (v := 82) f_59_72 rfl (by decide) ?_
  refine r_iconst f_59_73 (by decide) ?_
  refine r_puti f_59_74 rfl (by decide) ?_
  exact r_retv f_59_77 rfl k2

theorem gc_Ba_init_0 {Q : PQ} {h : HP}  
    (o1 : h 1002 0 = 90)
    (k2 : Q none (hs (hs (hs (hs h 1002 0 91) 89 0 1) 1002 0 92) 89 1 1)) :
    Wp false i_Ba_init 0 [vr 89] [] h Q := by
  refine r_aload_n (v := 89) f_0_0 rfl (by decide) ?_
  refine r_objInit f_0_1 (by decide) ?_
  refine r_aload_n (v := 89) f_0_4 rfl (by decide) ?_
  refine r_bipush f_0_5 (by decide) ?_
  refine r_newi (a := 90) f_0_7 rfl o1 ⟨rfl, by decide, rfl⟩ ?_
  refine r_putr f_0_9 rfl (by decide) rfl (by decide) rfl ?_
  refine r_aload_n (v := 89) f_0_12 rfl (by decide) ?_
  refine r_sipush f_0_13 (by decide) ?_
  refine r_newi (a := 91) f_0_16 rfl (by simp [hs]) ⟨rfl, by decide, rfl⟩ ?_
  refine r_putr f_0_18 rfl (by decide) rfl (by decide) rfl ?_
  exact r_retv f_0_21 rfl k2

theorem gc_Bo_init_0 {Q : PQ} {h : HP}  
    (o1 : h 1002 0 = 93)
    (k2 : Q none (hs (hs (hs (hs (hs (hs (hs (hs h 1002 0 94) 92 0 1) 1002 0 95) 92 1 1) 1002 0 96) 92 2 1) 1002 0 97) 92 3 1)) :
    Wp false i_Bo_init 0 [vr 92] [] h Q := by
  refine r_aload_n (v := 92) f_8_0 rfl (by decide) ?_
  refine r_objInit f_8_1 (by decide) ?_
  refine r_aload_n (v := 92) f_8_4 rfl (by decide) ?_
  refine r_bipush f_8_5 (by decide) ?_
  refine r_newi (a := 93) f_8_7 rfl o1 ⟨rfl, by decide, rfl⟩ ?_
  refine r_putr f_8_9 rfl (by decide) rfl (by decide) rfl ?_
  refine r_aload_n (v := 92) f_8_12 rfl (by decide) ?_
  refine r_sipush f_8_13 (by decide) ?_
  refine r_newj (a := 94) f_8_16 rfl (by simp [hs]) ⟨rfl, by decide, rfl⟩ ?_
  refine r_putr f_8_18 rfl (by decide) rfl (by decide) rfl ?_
  refine r_aload_n (v := 92) f_8_21 rfl (by decide) ?_
  refine r_sipush f_8_22 (by decide) ?_
  refine r_newj (a := 95) f_8_25 rfl (by simp [hs]) ⟨rfl, by decide, rfl⟩ ?_
  refine r_putr f_8_27 rfl (by decide) rfl (by decide) rfl ?_
  refine r_aload_n (v := 92) f_8_30 rfl (by decide) ?_
  refine r_bipush f_8_31 (by decide) ?_
  refine r_newj (a := 96) f_8_33 rfl (by simp [hs]) ⟨rfl, by decide, rfl⟩ ?_
  refine r_putr f_8_35 rfl (by decide) rfl (by decide) rfl ?_
  exact r_retv f_8_38 rfl k2

theorem gc_En_init_0 {Q : PQ} {h : HP}  
    (o1 : h 1002 0 = 98)
    (k2 : Q none (hs (hs (hs (hs h 1002 0 99) 97 0 1) 97 1 0) 97 2 0)) :
    Wp false i_En_init 0 [vr 97] [] h Q := by
  refine r_aload_n (v := 97) f_22_0 rfl (by decide) ?_
  refine r_objInit f_22_1 (by decide) ?_
  refine r_aload_n (v := 97) f_22_4 rfl (by decide) ?_
  refine r_bipush f_22_5 (by decide) ?_
  refine r_newi (a := 98) f_22_7 rfl o1 ⟨rfl, by decide, rfl⟩ ?_
  refine r_putr f_22_9 rfl (by decide) rfl (by decide) rfl ?_
  refine r_aload_n (v := 97) f_22_12 rfl (by decide) ?_
  refine r_iconst f_22_13 (by decide) ?_
  refine r_puti f_22_14 rfl (by decide) ?_
  refine r_aload_n (v := 97) f_22_17 rfl (by decide) ?_
  refine r_iconst f_22_18 (by decide) ?_
  refine r_puti f_22_19 rfl (by decide) ?_
  exact r_retv f_22_22 rfl k2

theorem gc_Pl_init_0 {Q : PQ} {h : HP}  
    (o1 : h 1002 0 = 100)
    (k2 : Q none (hs (hs (hs (hs (hs (hs (hs (hs (hs (hs (hs (hs h 99 0 0) 99 1 0) 99 2 0) 99 3 0) 99 4 0) 1002 0 101) 99 5 1) 1002 0 102) 99 6 1) 99 7 0) 1002 0 103) 99 8 1)) :
    Wp false i_Pl_init 0 [vr 99] [] h Q := by
  refine r_aload_n (v := 99) f_83_0 rfl (by decide) ?_
  refine r_objInit f_83_1 (by decide) ?_
  refine r_aload_n (v := 99) f_83_4 rfl (by decide) ?_
  refine r_iconst f_83_5 (by decide) ?_
  refine r_puti f_83_6 rfl (by decide) ?_
  refine r_aload_n (v := 99) f_83_9 rfl (by decide) ?_
  refine r_iconst f_83_10 (by decide) ?_
  refine r_puti f_83_11 rfl (by decide) ?_
  refine r_aload_n (v := 99) f_83_14 rfl (by decide) ?_
  refine r_iconst f_83_15 (by decide) ?_
  refine r_puti f_83_16 rfl (by decide) ?_
  refine r_aload_n (v := 99) f_83_19 rfl (by decide) ?_
  refine r_iconst f_83_20 (by decide) ?_
  refine r_putz f_83_21 rfl (by decide) (by decide) ?_
  refine r_aload_n (v := 99) f_83_24 rfl (by decide) ?_
  refine r_iconst f_83_25 (by decide) ?_
  refine r_puti f_83_26 rfl (by decide) ?_
  refine r_aload_n (v := 99) f_83_29 rfl (by decide) ?_
  refine r_iconst f_83_30 (by decide) ?_
  refine r_newi (a := 100) f_83_31 rfl o1 ⟨rfl, by decide, rfl⟩ ?_
  refine r_putr f_83_33 rfl (by decide) rfl (by decide) rfl ?_
  refine r_aload_n (v := 99) f_83_36 rfl (by decide) ?_
  refine r_bipush f_83_37 (by decide) ?_
  refine r_newi (a := 101) f_83_39 rfl (by simp [hs]) ⟨rfl, by decide, rfl⟩ ?_
  refine r_putr f_83_41 rfl (by decide) rfl (by decide) rfl ?_
  refine r_aload_n (v := 99) f_83_44 rfl (by decide) ?_
  refine r_iconst f_83_45 (by decide) ?_
  refine r_putz f_83_46 rfl (by decide) (by decide) ?_
  refine r_aload_n (v := 99) f_83_49 rfl (by decide) ?_
  refine r_iconst f_83_50 (by decide) ?_
  refine r_newi (a := 102) f_83_51 rfl (by simp [hs]) ⟨rfl, by decide, rfl⟩ ?_
  refine r_putr f_83_53 rfl (by decide) rfl (by decide) rfl ?_
  exact r_retv f_83_56 rfl k2

theorem gc_Ty_init_0 {Q : PQ} {h : HP}  
    (o1 : h 1002 0 = 2)
    (k2 : Wp false i_Ar_fillI 0 [vr 3, vi (-1), vr 9999, vr 9999] [] (hs (hs (hs (hs (hs (hs h 1002 0 3) 1 0 1) 1002 0 4) 1 1 1) 1002 0 5) 1 2 1) (fun r h' => Wp false i_Ty_init 35 [vr 1] (r.toList ++ []) h' Q)) :
    Wp false i_Ty_init 0 [vr 1] [] h Q := by
  refine r_aload_n (v := 1) f_132_0 rfl (by decide) ?_
  refine r_objInit f_132_1 (by decide) ?_
  refine r_aload_n (v := 1) f_132_4 rfl (by decide) ?_
  refine r_sipush f_132_5 (by decide) ?_
  refine r_newj (a := 2) f_132_8 rfl o1 ⟨rfl, by decide, rfl⟩ ?_
  refine r_putr f_132_10 rfl (by decide) rfl (by decide) rfl ?_
  refine r_aload_n (v := 1) f_132_13 rfl (by decide) ?_
  refine r_iconst f_132_14 (by decide) ?_
  refine r_newi (a := 3) f_132_15 rfl (by simp [hs]) ⟨rfl, by decide, rfl⟩ ?_
  refine r_putr f_132_17 rfl (by decide) rfl (by decide) rfl ?_
  refine r_aload_n (v := 1) f_132_20 rfl (by decide) ?_
  refine r_iconst f_132_21 (by decide) ?_
  refine r_newi (a := 4) f_132_22 rfl (by simp [hs]) ⟨rfl, by decide, rfl⟩ ?_
  refine r_putr f_132_24 rfl (by decide) rfl (by decide) rfl ?_
  refine r_aload_n (v := 1) f_132_27 rfl (by decide) ?_
  refine r_getr (q := 3) f_132_28 rfl (by decide) (Or.inr (by simp [hs])) rfl ?_
  refine r_iconst f_132_31 (by decide) ?_
  exact r_calls (as := [vr 3, vi (-1)]) (st' := []) (ls0 := [vr 3, vi (-1), vr 9999, vr 9999]) f_132_32 (by decide) (by decide) rfl rfl (Nat.le_of_ble_eq_true rfl) (Nat.le_of_ble_eq_true rfl) rfl k2

theorem gc_Ty_init_35 {Q : PQ} {h : HP}  
    (k1 : Q none h) :
    Wp false i_Ty_init 35 [vr 1] [] h Q := by
  exact r_retv f_132_35 rfl k1

theorem gc_To_init_0 {Q : PQ} {h : HP}  
    (o1 : h 1002 0 = 6)
    (k2 : Wp false i_To_init 78 [vr 5, vi 0, vr 9999, vr 9999] [] (hs (hs (hs (hs (hs (hs (hs (hs (hs (hs (hs (hs (hs (hs (hs h 1002 0 7) 5 0 1) 1002 0 8) 5 1 1) 5 2 0) 5 3 (-1)) 5 4 (-1)) 5 5 0) 5 6 (-1)) 5 7 0) 5 8 0) 5 9 0) 5 10 0) 5 11 0) 5 12 0) Q) :
    Wp false i_To_init 0 [vr 5, vr 9999, vr 9999, vr 9999] [] h Q := by
  refine r_aload_n (v := 5) f_117_0 rfl (by decide) ?_
  refine r_objInit f_117_1 (by decide) ?_
  refine r_aload_n (v := 5) f_117_4 rfl (by decide) ?_
  refine r_sipush f_117_5 (by decide) ?_
  refine r_newb (a := 6) f_117_8 rfl o1 ⟨rfl, by decide, rfl⟩ ?_
  refine r_putr f_117_10 rfl (by decide) rfl (by decide) rfl ?_
  refine r_aload_n (v := 5) f_117_13 rfl (by decide) ?_
  refine r_bipush f_117_14 (by decide) ?_
  refine r_newj (a := 7) f_117_16 rfl (by simp [hs]) ⟨rfl, by decide, rfl⟩ ?_
  refine r_putr f_117_18 rfl (by decide) rfl (by decide) rfl ?_
  refine r_aload_n (v := 5) f_117_21 rfl (by decide) ?_
  refine r_iconst f_117_22 (by decide) ?_
  refine r_puti f_117_23 rfl (by decide) ?_
  refine r_aload_n (v := 5) f_117_26 rfl (by decide) ?_
  refine r_iconst f_117_27 (by decide) ?_
  refine r_puti f_117_28 rfl (by decide) ?_
  refine r_aload_n (v := 5) f_117_31 rfl (by decide) ?_
  refine r_iconst f_117_32 (by decide) ?_
  refine r_puti f_117_33 rfl (by decide) ?_
  refine r_aload_n (v := 5) f_117_36 rfl (by decide) ?_
  refine r_iconst f_117_37 (by decide) ?_
  refine r_puti f_117_38 rfl (by decide) ?_
  refine r_aload_n (v := 5) f_117_41 rfl (by decide) ?_
  refine r_iconst f_117_42 (by decide) ?_
  refine r_puti f_117_43 rfl (by decide) ?_
  refine r_aload_n (v := 5) f_117_46 rfl (by decide) ?_
  refine r_iconst f_117_47 (by decide) ?_
  refine r_puti f_117_48 rfl (by decide) ?_
  refine r_aload_n (v := 5) f_117_51 rfl (by decide) ?_
  refine r_iconst f_117_52 (by decide) ?_
  refine r_puti f_117_53 rfl (by decide) ?_
  refine r_aload_n (v := 5) f_117_56 rfl (by decide) ?_
  refine r_lconst (v := 0) f_117_57 rfl ?_
  refine r_putj f_117_58 rfl (by decide) ?_
  refine r_aload_n (v := 5) f_117_61 rfl (by decide) ?_
  refine r_iconst f_117_62 (by decide) ?_
  refine r_puti f_117_63 rfl (by decide) ?_
  refine r_aload_n (v := 5) f_117_66 rfl (by decide) ?_
  refine r_iconst f_117_67 (by decide) ?_
  refine r_puti f_117_68 rfl (by decide) ?_
  refine r_aload_n (v := 5) f_117_71 rfl (by decide) ?_
  refine r_iconst f_117_72 (by decide) ?_
  refine r_puti f_117_73 rfl (by decide) ?_
  refine r_iconst f_117_76 (by decide) ?_
  refine r_istore_n (ls' := [vr 5, vi 0, vr 9999, vr 9999]) f_117_77 (Nat.le_of_ble_eq_true rfl) rfl ?_
  exact k2

theorem gc_To_init_78 {Q : PQ} {h : HP} {x1 : Int} {j2 : AV} {j3 : AV} 
    (k1 : 132 ≤ x1 → Q none h)
    (k2 : ¬ 132 ≤ x1 → 132 ≤ x1 → Q none h)
    (o3 : ¬ 132 ≤ x1 → ¬ 132 ≤ x1 → 0 ≤ x1 ∧ x1 < 132)
    (o4 : ¬ 132 ≤ x1 → ¬ 132 ≤ x1 → (zstr 2000).getD x1.toNat 0 = 32 → -2147483648 ≤ x1 + 1 ∧ x1 + 1 ≤ 2147483647)
    (k5 : ¬ 132 ≤ x1 → ¬ 132 ≤ x1 → (zstr 2000).getD x1.toNat 0 = 32 → Wp false i_To_init 78 [vr 5, vi (x1 + 1), vi ((zstr 2000).getD x1.toNat 0), j3] [] h Q)
    (o6 : ¬ 132 ≤ x1 → ¬ 132 ≤ x1 → ¬ (zstr 2000).getD x1.toNat 0 = 32 → 0 ≤ x1 ∧ x1 ≤ 2147483647)
    (o7 : ¬ 132 ≤ x1 → ¬ 132 ≤ x1 → ¬ (zstr 2000).getD x1.toNat 0 = 32 → h 5 1 = 1)
    (o8 : ¬ 132 ≤ x1 → ¬ 132 ≤ x1 → ¬ (zstr 2000).getD x1.toNat 0 = 32 → 0 ≤ x1 / 6 ∧ x1 / 6 < 22)
    (o9 : ¬ 132 ≤ x1 → ¬ 132 ≤ x1 → ¬ (zstr 2000).getD x1.toNat 0 = 32 → -9223372036854775808 ≤ (h 7 (x1 / 6).toNat) * 32 ∧ (h 7 (x1 / 6).toNat) * 32 ≤ 9223372036854775807)
    (o10 : ¬ 132 ≤ x1 → ¬ 132 ≤ x1 → ¬ (zstr 2000).getD x1.toNat 0 = 32 → -2147483648 ≤ ((zstr 2000).getD x1.toNat 0) - 97 ∧ ((zstr 2000).getD x1.toNat 0) - 97 ≤ 2147483647)
    (o11 : ¬ 132 ≤ x1 → ¬ 132 ≤ x1 → ¬ (zstr 2000).getD x1.toNat 0 = 32 → -2147483648 ≤ (((zstr 2000).getD x1.toNat 0) - 97) + 1 ∧ (((zstr 2000).getD x1.toNat 0) - 97) + 1 ≤ 2147483647)
    (o12 : ¬ 132 ≤ x1 → ¬ 132 ≤ x1 → ¬ (zstr 2000).getD x1.toNat 0 = 32 → -9223372036854775808 ≤ ((h 7 (x1 / 6).toNat) * 32) + ((((zstr 2000).getD x1.toNat 0) - 97) + 1) ∧ ((h 7 (x1 / 6).toNat) * 32) + ((((zstr 2000).getD x1.toNat 0) - 97) + 1) ≤ 9223372036854775807)
    (o13 : ¬ 132 ≤ x1 → ¬ 132 ≤ x1 → ¬ (zstr 2000).getD x1.toNat 0 = 32 → -2147483648 ≤ x1 + 1 ∧ x1 + 1 ≤ 2147483647)
    (k14 : ¬ 132 ≤ x1 → ¬ 132 ≤ x1 → ¬ (zstr 2000).getD x1.toNat 0 = 32 → Wp false i_To_init 78 [vr 5, vi (x1 + 1), vi ((zstr 2000).getD x1.toNat 0), vi (x1 / 6)] [] (hs h 7 (x1 / 6).toNat (((h 7 (x1 / 6).toNat) * 32) + ((((zstr 2000).getD x1.toNat 0) - 97) + 1))) Q) :
    Wp false i_To_init 78 [vr 5, vi x1, j2, j3] [] h Q := by
  refine r_iload_n (v := x1) f_117_78 rfl ?_
  refine r_ldcS f_117_79 (by decide) ?_
  refine r_length (v := 132) f_117_81 (by decide) rfl (Nat.le_of_ble_eq_true rfl) ?_
  refine r_br2 (t := 142) f_117_84 rfl cb_ge (fun c1 => ?_) (fun c1 => ?_)
  · exact r_retv f_117_142 rfl (k1 c1)
  · refine r_iload_n (v := x1) f_117_87 rfl ?_
    refine r_sipush f_117_88 (by decide) ?_
    refine r_br2 (t := 142) f_117_91 rfl cb_ge (fun c2 => ?_) (fun c2 => ?_)
    · exact r_retv f_117_142 rfl (k2 c1 c2)
    · refine r_ldcS f_117_94 (by decide) ?_
      refine r_iload_n (v := x1) f_117_96 rfl ?_
      refine r_charAt f_117_97 (o3 c1 c2) (by decide) ?_
      refine r_istore_n (ls' := [vr 5, vi x1, vi ((zstr 2000).getD x1.toNat 0), j3]) f_117_100 (Nat.le_of_ble_eq_true rfl) rfl ?_
      refine r_iload_n (v := (zstr 2000).getD x1.toNat 0) f_117_101 rfl ?_
      refine r_bipush f_117_102 (by decide) ?_
      refine r_br2 (t := 136) f_117_104 rfl cb_eq (fun c3 => ?_) (fun c3 => ?_)
      · refine r_iinc (v := x1) (w := x1 + 1) (ls' := [vr 5, vi (x1 + 1), vi ((zstr 2000).getD x1.toNat 0), j3]) f_117_136 rfl rfl (o4 c1 c2 c3) rfl ?_
        refine r_goto (t := 78) f_117_139 rfl ?_
        exact (k5 c1 c2 c3)
      · refine r_iload_n (v := x1) f_117_107 rfl ?_
        refine r_bipush f_117_108 (by decide) ?_
        refine r_idiv f_117_110 (o6 c1 c2 c3) (by decide) ?_
        refine r_istore_n (ls' := [vr 5, vi x1, vi ((zstr 2000).getD x1.toNat 0), vi (x1 / 6)]) f_117_111 (Nat.le_of_ble_eq_true rfl) rfl ?_
        refine r_aload_n (v := 5) f_117_112 rfl (by decide) ?_
        refine r_getr (q := 7) f_117_113 rfl (by decide) (Or.inr (o7 c1 c2 c3)) rfl ?_
        refine r_iload_n (v := x1 / 6) f_117_116 rfl ?_
        refine r_aload_n (v := 5) f_117_117 rfl (by decide) ?_
        refine r_getr (q := 7) f_117_118 rfl (by decide) (Or.inr (o7 c1 c2 c3)) rfl ?_
        refine r_iload_n (v := x1 / 6) f_117_121 rfl ?_
        refine r_laload (n := 22) (v := h 7 (x1 / 6).toNat) f_117_122 ⟨rfl, rfl⟩ (o8 c1 c2 c3) rfl ?_
        refine r_ldc2_w f_117_123 (by decide) ?_
        refine r_lmul (u := (h 7 (x1 / 6).toNat) * 32) f_117_126 rfl (o9 c1 c2 c3) ?_
        refine r_iload_n (v := (zstr 2000).getD x1.toNat 0) f_117_127 rfl ?_
        refine r_bipush f_117_128 (by decide) ?_
        refine r_isub (u := ((zstr 2000).getD x1.toNat 0) - 97) f_117_130 rfl (o10 c1 c2 c3) ?_
        refine r_iconst f_117_131 (by decide) ?_
        refine r_iadd (u := (((zstr 2000).getD x1.toNat 0) - 97) + 1) f_117_132 rfl (o11 c1 c2 c3) ?_
        refine r_i2l f_117_133 ?_
        refine r_ladd (u := ((h 7 (x1 / 6).toNat) * 32) + ((((zstr 2000).getD x1.toNat 0) - 97) + 1)) f_117_134 rfl (o12 c1 c2 c3) ?_
        refine r_lastore (n := 22) f_117_135 ⟨rfl, rfl⟩ (o8 c1 c2 c3) ?_
        refine r_iinc (v := x1) (w := x1 + 1) (ls' := [vr 5, vi (x1 + 1), vi ((zstr 2000).getD x1.toNat 0), vi (x1 / 6)]) f_117_136 rfl rfl (o13 c1 c2 c3) rfl ?_
        refine r_goto (t := 78) f_117_139 rfl ?_
        exact (k14 c1 c2 c3)

theorem gc_M_init_0 {Q : PQ} {h : HP}  
    (o1 : h 1002 0 = 104)
    (k2 : Wp false i_M_plain 0 [vr 103, vi 0, vr 9999] [] (hs (hs (hs (hs (hs (hs (hs (hs (hs (hs (hs (hs (hs (hs (hs (hs (hs (hs (hs (hs (hs (hs (hs (hs (hs (hs (hs (hs (hs (hs (hs (hs (hs (hs (hs (hs (hs (hs (hs (hs (hs (hs (hs (hs (hs h 1002 0 105) 103 0 1) 1002 0 106) 103 1 1) 103 4 1) 1002 0 107) 103 5 1) 1002 0 108) 107 0 (-1)) 107 1 (-1)) 107 2 (-1)) 107 3 (-1)) 103 6 1) 1002 0 109) 103 7 1) 1002 0 110) 103 8 1) 1002 0 111) 103 9 1) 103 16 (-1)) 103 17 (-1)) 1002 0 112) 103 21 1) 1002 0 113) 103 24 1) 1002 0 114) 103 25 1) 1002 0 115) 103 26 1) 1002 0 116) 103 27 1) 1002 0 117) 103 28 1) 1002 0 118) 103 29 1) 1002 0 119) 103 30 1) 1002 0 120) 103 31 1) 1002 0 121) 103 35 1) 1002 0 122) 103 36 1) 1002 0 123) 103 37 1) (fun r h' => Wp false i_M_init 194 [vr 103] (r.toList ++ []) h' Q)) :
    Wp false i_M_init 0 [vr 103] [] h Q := by
  refine r_aload_n (v := 103) f_221_0 rfl (by decide) ?_
  refine r_objInit f_221_1 (by decide) ?_
  refine r_aload_n (v := 103) f_221_4 rfl (by decide) ?_
  refine r_sipush f_221_5 (by decide) ?_
  refine r_newi (a := 104) f_221_8 rfl o1 ⟨rfl, by decide, rfl⟩ ?_
  refine r_putr f_221_10 rfl (by decide) rfl (by decide) rfl ?_
  refine r_aload_n (v := 103) f_221_13 rfl (by decide) ?_
  refine r_bipush f_221_14 (by decide) ?_
  refine r_newj (a := 105) f_221_16 rfl (by simp [hs]) ⟨rfl, by decide, rfl⟩ ?_
  refine r_putr f_221_18 rfl (by decide) rfl (by decide) rfl ?_
  refine r_aload_n (v := 103) f_221_21 rfl (by decide) ?_
  refine r_lconst (v := 1) f_221_22 rfl ?_
  refine r_putj f_221_23 rfl (by decide) ?_
  refine r_aload_n (v := 103) f_221_26 rfl (by decide) ?_
  refine r_iconst f_221_27 (by decide) ?_
  refine r_newi (a := 106) f_221_28 rfl (by simp [hs]) ⟨rfl, by decide, rfl⟩ ?_
  refine r_putr f_221_30 rfl (by decide) rfl (by decide) rfl ?_
  refine r_aload_n (v := 103) f_221_33 rfl (by decide) ?_
  refine r_iconst f_221_34 (by decide) ?_
  refine r_newi (a := 107) f_221_35 rfl (by simp [hs]) ⟨rfl, by decide, rfl⟩ ?_
  refine r_dupr f_221_37 ?_
  refine r_iconst f_221_38 (by decide) ?_
  refine r_iconst f_221_39 (by decide) ?_
  refine r_iastore (n := 4) f_221_40 ⟨rfl, rfl⟩ (by decide) ?_
  refine r_dupr f_221_41 ?_
  refine r_iconst f_221_42 (by decide) ?_
  refine r_iconst f_221_43 (by decide) ?_
  refine r_iastore (n := 4) f_221_44 ⟨rfl, rfl⟩ (by decide) ?_
  refine r_dupr f_221_45 ?_
  refine r_iconst f_221_46 (by decide) ?_
  refine r_iconst f_221_47 (by decide) ?_
  refine r_iastore (n := 4) f_221_48 ⟨rfl, rfl⟩ (by decide) ?_
  refine r_dupr f_221_49 ?_
  refine r_iconst f_221_50 (by decide) ?_
  refine r_iconst f_221_51 (by decide) ?_
  refine r_iastore (n := 4) f_221_52 ⟨rfl, rfl⟩ (by decide) ?_
  refine r_putr f_221_53 rfl (by decide) rfl (by decide) rfl ?_
  refine r_aload_n (v := 103) f_221_56 rfl (by decide) ?_
  refine r_sipush f_221_57 (by decide) ?_
  refine r_newj (a := 108) f_221_60 rfl (by simp [hs]) ⟨rfl, by decide, rfl⟩ ?_
  refine r_putr f_221_62 rfl (by decide) rfl (by decide) rfl ?_
  refine r_aload_n (v := 103) f_221_65 rfl (by decide) ?_
  refine r_sipush f_221_66 (by decide) ?_
  refine r_newb (a := 109) f_221_69 rfl (by simp [hs]) ⟨rfl, by decide, rfl⟩ ?_
  refine r_putr f_221_71 rfl (by decide) rfl (by decide) rfl ?_
  refine r_aload_n (v := 103) f_221_74 rfl (by decide) ?_
  refine r_sipush f_221_75 (by decide) ?_
  refine r_newb (a := 110) f_221_78 rfl (by simp [hs]) ⟨rfl, by decide, rfl⟩ ?_
  refine r_putr f_221_80 rfl (by decide) rfl (by decide) rfl ?_
  refine r_aload_n (v := 103) f_221_83 rfl (by decide) ?_
  refine r_iconst f_221_84 (by decide) ?_
  refine r_puti f_221_85 rfl (by decide) ?_
  refine r_aload_n (v := 103) f_221_88 rfl (by decide) ?_
  refine r_iconst f_221_89 (by decide) ?_
  refine r_puti f_221_90 rfl (by decide) ?_
  refine r_aload_n (v := 103) f_221_93 rfl (by decide) ?_
  refine r_iconst f_221_94 (by decide) ?_
  refine r_newi (a := 111) f_221_95 rfl (by simp [hs]) ⟨rfl, by decide, rfl⟩ ?_
  refine r_putr f_221_97 rfl (by decide) rfl (by decide) rfl ?_
  refine r_aload_n (v := 103) f_221_100 rfl (by decide) ?_
  refine r_bipush f_221_101 (by decide) ?_
  refine r_newi (a := 112) f_221_103 rfl (by simp [hs]) ⟨rfl, by decide, rfl⟩ ?_
  refine r_putr f_221_105 rfl (by decide) rfl (by decide) rfl ?_
  refine r_aload_n (v := 103) f_221_108 rfl (by decide) ?_
  refine r_bipush f_221_109 (by decide) ?_
  refine r_newi (a := 113) f_221_111 rfl (by simp [hs]) ⟨rfl, by decide, rfl⟩ ?_
  refine r_putr f_221_113 rfl (by decide) rfl (by decide) rfl ?_
  refine r_aload_n (v := 103) f_221_116 rfl (by decide) ?_
  refine r_sipush f_221_117 (by decide) ?_
  refine r_newi (a := 114) f_221_120 rfl (by simp [hs]) ⟨rfl, by decide, rfl⟩ ?_
  refine r_putr f_221_122 rfl (by decide) rfl (by decide) rfl ?_
  refine r_aload_n (v := 103) f_221_125 rfl (by decide) ?_
  refine r_bipush f_221_126 (by decide) ?_
  refine r_newi (a := 115) f_221_128 rfl (by simp [hs]) ⟨rfl, by decide, rfl⟩ ?_
  refine r_putr f_221_130 rfl (by decide) rfl (by decide) rfl ?_
  refine r_aload_n (v := 103) f_221_133 rfl (by decide) ?_
  refine r_sipush f_221_134 (by decide) ?_
  refine r_newj (a := 116) f_221_137 rfl (by simp [hs]) ⟨rfl, by decide, rfl⟩ ?_
  refine r_putr f_221_139 rfl (by decide) rfl (by decide) rfl ?_
  refine r_aload_n (v := 103) f_221_142 rfl (by decide) ?_
  refine r_sipush f_221_143 (by decide) ?_
  refine r_newj (a := 117) f_221_146 rfl (by simp [hs]) ⟨rfl, by decide, rfl⟩ ?_
  refine r_putr f_221_148 rfl (by decide) rfl (by decide) rfl ?_
  refine r_aload_n (v := 103) f_221_151 rfl (by decide) ?_
  refine r_bipush f_221_152 (by decide) ?_
  refine r_newi (a := 118) f_221_154 rfl (by simp [hs]) ⟨rfl, by decide, rfl⟩ ?_
  refine r_putr f_221_156 rfl (by decide) rfl (by decide) rfl ?_
  refine r_aload_n (v := 103) f_221_159 rfl (by decide) ?_
  refine r_bipush f_221_160 (by decide) ?_
  refine r_newi (a := 119) f_221_162 rfl (by simp [hs]) ⟨rfl, by decide, rfl⟩ ?_
  refine r_putr f_221_164 rfl (by decide) rfl (by decide) rfl ?_
  refine r_aload_n (v := 103) f_221_167 rfl (by decide) ?_
  refine r_bipush f_221_168 (by decide) ?_
  refine r_newi (a := 120) f_221_170 rfl (by simp [hs]) ⟨rfl, by decide, rfl⟩ ?_
  refine r_putr f_221_172 rfl (by decide) rfl (by decide) rfl ?_
  refine r_aload_n (v := 103) f_221_175 rfl (by decide) ?_
  refine r_iconst f_221_176 (by decide) ?_
  refine r_newi (a := 121) f_221_177 rfl (by simp [hs]) ⟨rfl, by decide, rfl⟩ ?_
  refine r_putr f_221_179 rfl (by decide) rfl (by decide) rfl ?_
  refine r_aload_n (v := 103) f_221_182 rfl (by decide) ?_
  refine r_iconst f_221_183 (by decide) ?_
  refine r_newi (a := 122) f_221_184 rfl (by simp [hs]) ⟨rfl, by decide, rfl⟩ ?_
  refine r_putr f_221_186 rfl (by decide) rfl (by decide) rfl ?_
  refine r_aload_n (v := 103) f_221_189 rfl (by decide) ?_
  refine r_iconst f_221_190 (by decide) ?_
  exact r_callv (as := [vr 103, vi 0]) (st' := []) (ls0 := [vr 103, vi 0, vr 9999]) f_221_191 (by decide) rfl rfl (Nat.le_of_ble_eq_true rfl) (Nat.le_of_ble_eq_true rfl) ⟨_, _, rfl, rfl⟩ rfl k2

theorem gc_M_init_194 {Q : PQ} {h : HP}  
    (k1 : Q none h) :
    Wp false i_M_init 194 [vr 103] [] h Q := by
  exact r_retv f_221_194 rfl k1

theorem gc10_Fl_init_0 {Q : PQ} {h : HP}  
    (o1 : h 1002 0 = 11)
    (k2 : Q none (hs (hs (hs (hs (hs (hs (hs (hs (hs (hs (hs (hs (hs (hs (hs (hs (hs (hs (hs (hs h 10 0 0) 10 1 0) 10 2 9) 10 3 0) 10 4 0) 1002 0 12) 10 5 1) 1002 0 13) 10 6 1) 1002 0 14) 10 7 1) 1002 0 15) 10 8 1) 1002 0 16) 10 9 1) 1002 0 17) 10 10 1) 1002 0 18) 10 11 1) 10 12 0)) :
    Wp false i_Fl_init 0 [vr 10] [] h Q := by
  refine r_aload_n (v := 10) f_26_0 rfl (by decide) ?_
  refine r_objInit f_26_1 (by decide) ?_
  refine r_aload_n (v := 10) f_26_4 rfl (by decide) ?_
  refine r_iconst f_26_5 (by decide) ?_
  refine r_puti f_26_6 rfl (by decide) ?_
  refine r_aload_n (v := 10) f_26_9 rfl (by decide) ?_
  refine r_iconst f_26_10 (by decide) ?_
  refine r_puti f_26_11 rfl (by decide) ?_
  refine r_aload_n (v := 10) f_26_14 rfl (by decide) ?_
  refine r_bipush f_26_15 (by decide) ?_
  refine r_puti f_26_17 rfl (by decide) ?_
  refine r_aload_n (v := 10) f_26_20 rfl (by decide) ?_
  refine r_iconst f_26_21 (by decide) ?_
  refine r_puti f_26_22 rfl (by decide) ?_
  refine r_aload_n (v := 10) f_26_25 rfl (by decide) ?_
  refine r_iconst f_26_26 (by decide) ?_
  refine r_puti f_26_27 rfl (by decide) ?_
  refine r_aload_n (v := 10) f_26_30 rfl (by decide) ?_
  refine r_iconst f_26_31 (by decide) ?_
  refine r_newi (a := 11) f_26_32 rfl o1 ⟨rfl, by decide, rfl⟩ ?_
  refine r_putr f_26_34 rfl (by decide) rfl (by decide) rfl ?_
  refine r_aload_n (v := 10) f_26_37 rfl (by decide) ?_
  refine r_bipush f_26_38 (by decide) ?_
  refine r_newi (a := 12) f_26_40 rfl (by simp [hs]) ⟨rfl, by decide, rfl⟩ ?_
  refine r_putr f_26_42 rfl (by decide) rfl (by decide) rfl ?_
  refine r_aload_n (v := 10) f_26_45 rfl (by decide) ?_
  refine r_bipush f_26_46 (by decide) ?_
  refine r_newj (a := 13) f_26_48 rfl (by simp [hs]) ⟨rfl, by decide, rfl⟩ ?_
  refine r_putr f_26_50 rfl (by decide) rfl (by decide) rfl ?_
  refine r_aload_n (v := 10) f_26_53 rfl (by decide) ?_
  refine r_bipush f_26_54 (by decide) ?_
  refine r_newi (a := 14) f_26_56 rfl (by simp [hs]) ⟨rfl, by decide, rfl⟩ ?_
  refine r_putr f_26_58 rfl (by decide) rfl (by decide) rfl ?_
  refine r_aload_n (v := 10) f_26_61 rfl (by decide) ?_
  refine r_bipush f_26_62 (by decide) ?_
  refine r_newi (a := 15) f_26_64 rfl (by simp [hs]) ⟨rfl, by decide, rfl⟩ ?_
  refine r_putr f_26_66 rfl (by decide) rfl (by decide) rfl ?_
  refine r_aload_n (v := 10) f_26_69 rfl (by decide) ?_
  refine r_bipush f_26_70 (by decide) ?_
  refine r_newi (a := 16) f_26_72 rfl (by simp [hs]) ⟨rfl, by decide, rfl⟩ ?_
  refine r_putr f_26_74 rfl (by decide) rfl (by decide) rfl ?_
  refine r_aload_n (v := 10) f_26_77 rfl (by decide) ?_
  refine r_bipush f_26_78 (by decide) ?_
  refine r_newi (a := 17) f_26_80 rfl (by simp [hs]) ⟨rfl, by decide, rfl⟩ ?_
  refine r_putr f_26_82 rfl (by decide) rfl (by decide) rfl ?_
  refine r_aload_n (v := 10) f_26_85 rfl (by decide) ?_
  refine r_iconst f_26_86 (by decide) ?_
  refine r_puti f_26_87 rfl (by decide) ?_
  exact r_retv f_26_90 rfl k2

theorem gc18_Fl_init_0 {Q : PQ} {h : HP}  
    (o1 : h 1002 0 = 19)
    (k2 : Q none (hs (hs (hs (hs (hs (hs (hs (hs (hs (hs (hs (hs (hs (hs (hs (hs (hs (hs (hs (hs h 18 0 0) 18 1 0) 18 2 9) 18 3 0) 18 4 0) 1002 0 20) 18 5 1) 1002 0 21) 18 6 1) 1002 0 22) 18 7 1) 1002 0 23) 18 8 1) 1002 0 24) 18 9 1) 1002 0 25) 18 10 1) 1002 0 26) 18 11 1) 18 12 0)) :
    Wp false i_Fl_init 0 [vr 18] [] h Q := by
  refine r_aload_n (v := 18) f_26_0 rfl (by decide) ?_
  refine r_objInit f_26_1 (by decide) ?_
  refine r_aload_n (v := 18) f_26_4 rfl (by decide) ?_
  refine r_iconst f_26_5 (by decide) ?_
  refine r_puti f_26_6 rfl (by decide) ?_
  refine r_aload_n (v := 18) f_26_9 rfl (by decide) ?_
  refine r_iconst f_26_10 (by decide) ?_
  refine r_puti f_26_11 rfl (by decide) ?_
  refine r_aload_n (v := 18) f_26_14 rfl (by decide) ?_
  refine r_bipush f_26_15 (by decide) ?_
  refine r_puti f_26_17 rfl (by decide) ?_
  refine r_aload_n (v := 18) f_26_20 rfl (by decide) ?_
  refine r_iconst f_26_21 (by decide) ?_
  refine r_puti f_26_22 rfl (by decide) ?_
  refine r_aload_n (v := 18) f_26_25 rfl (by decide) ?_
  refine r_iconst f_26_26 (by decide) ?_
  refine r_puti f_26_27 rfl (by decide) ?_
  refine r_aload_n (v := 18) f_26_30 rfl (by decide) ?_
  refine r_iconst f_26_31 (by decide) ?_
  refine r_newi (a := 19) f_26_32 rfl o1 ⟨rfl, by decide, rfl⟩ ?_
  refine r_putr f_26_34 rfl (by decide) rfl (by decide) rfl ?_
  refine r_aload_n (v := 18) f_26_37 rfl (by decide) ?_
  refine r_bipush f_26_38 (by decide) ?_
  refine r_newi (a := 20) f_26_40 rfl (by simp [hs]) ⟨rfl, by decide, rfl⟩ ?_
  refine r_putr f_26_42 rfl (by decide) rfl (by decide) rfl ?_
  refine r_aload_n (v := 18) f_26_45 rfl (by decide) ?_
  refine r_bipush f_26_46 (by decide) ?_
  refine r_newj (a := 21) f_26_48 rfl (by simp [hs]) ⟨rfl, by decide, rfl⟩ ?_
  refine r_putr f_26_50 rfl (by decide) rfl (by decide) rfl ?_
  refine r_aload_n (v := 18) f_26_53 rfl (by decide) ?_
  refine r_bipush f_26_54 (by decide) ?_
  refine r_newi (a := 22) f_26_56 rfl (by simp [hs]) ⟨rfl, by decide, rfl⟩ ?_
  refine r_putr f_26_58 rfl (by decide) rfl (by decide) rfl ?_
  refine r_aload_n (v := 18) f_26_61 rfl (by decide) ?_
  refine r_bipush f_26_62 (by decide) ?_
  refine r_newi (a := 23) f_26_64 rfl (by simp [hs]) ⟨rfl, by decide, rfl⟩ ?_
  refine r_putr f_26_66 rfl (by decide) rfl (by decide) rfl ?_
  refine r_aload_n (v := 18) f_26_69 rfl (by decide) ?_
  refine r_bipush f_26_70 (by decide) ?_
  refine r_newi (a := 24) f_26_72 rfl (by simp [hs]) ⟨rfl, by decide, rfl⟩ ?_
  refine r_putr f_26_74 rfl (by decide) rfl (by decide) rfl ?_
  refine r_aload_n (v := 18) f_26_77 rfl (by decide) ?_
  refine r_bipush f_26_78 (by decide) ?_
  refine r_newi (a := 25) f_26_80 rfl (by simp [hs]) ⟨rfl, by decide, rfl⟩ ?_
  refine r_putr f_26_82 rfl (by decide) rfl (by decide) rfl ?_
  refine r_aload_n (v := 18) f_26_85 rfl (by decide) ?_
  refine r_iconst f_26_86 (by decide) ?_
  refine r_puti f_26_87 rfl (by decide) ?_
  exact r_retv f_26_90 rfl k2

theorem gc40_Fl_init_0 {Q : PQ} {h : HP}  
    (o1 : h 1002 0 = 41)
    (k2 : Q none (hs (hs (hs (hs (hs (hs (hs (hs (hs (hs (hs (hs (hs (hs (hs (hs (hs (hs (hs (hs h 40 0 0) 40 1 0) 40 2 9) 40 3 0) 40 4 0) 1002 0 42) 40 5 1) 1002 0 43) 40 6 1) 1002 0 44) 40 7 1) 1002 0 45) 40 8 1) 1002 0 46) 40 9 1) 1002 0 47) 40 10 1) 1002 0 48) 40 11 1) 40 12 0)) :
    Wp false i_Fl_init 0 [vr 40] [] h Q := by
  refine r_aload_n (v := 40) f_26_0 rfl (by decide) ?_
  refine r_objInit f_26_1 (by decide) ?_
  refine r_aload_n (v := 40) f_26_4 rfl (by decide) ?_
  refine r_iconst f_26_5 (by decide) ?_
  refine r_puti f_26_6 rfl (by decide) ?_
  refine r_aload_n (v := 40) f_26_9 rfl (by decide) ?_
  refine r_iconst f_26_10 (by decide) ?_
  refine r_puti f_26_11 rfl (by decide) ?_
  refine r_aload_n (v := 40) f_26_14 rfl (by decide) ?_
  refine r_bipush f_26_15 (by decide) ?_
  refine r_puti f_26_17 rfl (by decide) ?_
  refine r_aload_n (v := 40) f_26_20 rfl (by decide) ?_
  refine r_iconst f_26_21 (by decide) ?_
  refine r_puti f_26_22 rfl (by decide) ?_
  refine r_aload_n (v := 40) f_26_25 rfl (by decide) ?_
  refine r_iconst f_26_26 (by decide) ?_
  refine r_puti f_26_27 rfl (by decide) ?_
  refine r_aload_n (v := 40) f_26_30 rfl (by decide) ?_
  refine r_iconst f_26_31 (by decide) ?_
  refine r_newi (a := 41) f_26_32 rfl o1 ⟨rfl, by decide, rfl⟩ ?_
  refine r_putr f_26_34 rfl (by decide) rfl (by decide) rfl ?_
  refine r_aload_n (v := 40) f_26_37 rfl (by decide) ?_
  refine r_bipush f_26_38 (by decide) ?_
  refine r_newi (a := 42) f_26_40 rfl (by simp [hs]) ⟨rfl, by decide, rfl⟩ ?_
  refine r_putr f_26_42 rfl (by decide) rfl (by decide) rfl ?_
  refine r_aload_n (v := 40) f_26_45 rfl (by decide) ?_
  refine r_bipush f_26_46 (by decide) ?_
  refine r_newj (a := 43) f_26_48 rfl (by simp [hs]) ⟨rfl, by decide, rfl⟩ ?_
  refine r_putr f_26_50 rfl (by decide) rfl (by decide) rfl ?_
  refine r_aload_n (v := 40) f_26_53 rfl (by decide) ?_
  refine r_bipush f_26_54 (by decide) ?_
  refine r_newi (a := 44) f_26_56 rfl (by simp [hs]) ⟨rfl, by decide, rfl⟩ ?_
  refine r_putr f_26_58 rfl (by decide) rfl (by decide) rfl ?_
  refine r_aload_n (v := 40) f_26_61 rfl (by decide) ?_
  refine r_bipush f_26_62 (by decide) ?_
  refine r_newi (a := 45) f_26_64 rfl (by simp [hs]) ⟨rfl, by decide, rfl⟩ ?_
  refine r_putr f_26_66 rfl (by decide) rfl (by decide) rfl ?_
  refine r_aload_n (v := 40) f_26_69 rfl (by decide) ?_
  refine r_bipush f_26_70 (by decide) ?_
  refine r_newi (a := 46) f_26_72 rfl (by simp [hs]) ⟨rfl, by decide, rfl⟩ ?_
  refine r_putr f_26_74 rfl (by decide) rfl (by decide) rfl ?_
  refine r_aload_n (v := 40) f_26_77 rfl (by decide) ?_
  refine r_bipush f_26_78 (by decide) ?_
  refine r_newi (a := 47) f_26_80 rfl (by simp [hs]) ⟨rfl, by decide, rfl⟩ ?_
  refine r_putr f_26_82 rfl (by decide) rfl (by decide) rfl ?_
  refine r_aload_n (v := 40) f_26_85 rfl (by decide) ?_
  refine r_iconst f_26_86 (by decide) ?_
  refine r_puti f_26_87 rfl (by decide) ?_
  exact r_retv f_26_90 rfl k2

theorem gc54_Fl_init_0 {Q : PQ} {h : HP}  
    (o1 : h 1002 0 = 55)
    (k2 : Q none (hs (hs (hs (hs (hs (hs (hs (hs (hs (hs (hs (hs (hs (hs (hs (hs (hs (hs (hs (hs h 54 0 0) 54 1 0) 54 2 9) 54 3 0) 54 4 0) 1002 0 56) 54 5 1) 1002 0 57) 54 6 1) 1002 0 58) 54 7 1) 1002 0 59) 54 8 1) 1002 0 60) 54 9 1) 1002 0 61) 54 10 1) 1002 0 62) 54 11 1) 54 12 0)) :
    Wp false i_Fl_init 0 [vr 54] [] h Q := by
  refine r_aload_n (v := 54) f_26_0 rfl (by decide) ?_
  refine r_objInit f_26_1 (by decide) ?_
  refine r_aload_n (v := 54) f_26_4 rfl (by decide) ?_
  refine r_iconst f_26_5 (by decide) ?_
  refine r_puti f_26_6 rfl (by decide) ?_
  refine r_aload_n (v := 54) f_26_9 rfl (by decide) ?_
  refine r_iconst f_26_10 (by decide) ?_
  refine r_puti f_26_11 rfl (by decide) ?_
  refine r_aload_n (v := 54) f_26_14 rfl (by decide) ?_
  refine r_bipush f_26_15 (by decide) ?_
  refine r_puti f_26_17 rfl (by decide) ?_
  refine r_aload_n (v := 54) f_26_20 rfl (by decide) ?_
  refine r_iconst f_26_21 (by decide) ?_
  refine r_puti f_26_22 rfl (by decide) ?_
  refine r_aload_n (v := 54) f_26_25 rfl (by decide) ?_
  refine r_iconst f_26_26 (by decide) ?_
  refine r_puti f_26_27 rfl (by decide) ?_
  refine r_aload_n (v := 54) f_26_30 rfl (by decide) ?_
  refine r_iconst f_26_31 (by decide) ?_
  refine r_newi (a := 55) f_26_32 rfl o1 ⟨rfl, by decide, rfl⟩ ?_
  refine r_putr f_26_34 rfl (by decide) rfl (by decide) rfl ?_
  refine r_aload_n (v := 54) f_26_37 rfl (by decide) ?_
  refine r_bipush f_26_38 (by decide) ?_
  refine r_newi (a := 56) f_26_40 rfl (by simp [hs]) ⟨rfl, by decide, rfl⟩ ?_
  refine r_putr f_26_42 rfl (by decide) rfl (by decide) rfl ?_
  refine r_aload_n (v := 54) f_26_45 rfl (by decide) ?_
  refine r_bipush f_26_46 (by decide) ?_
  refine r_newj (a := 57) f_26_48 rfl (by simp [hs]) ⟨rfl, by decide, rfl⟩ ?_
  refine r_putr f_26_50 rfl (by decide) rfl (by decide) rfl ?_
  refine r_aload_n (v := 54) f_26_53 rfl (by decide) ?_
  refine r_bipush f_26_54 (by decide) ?_
  refine r_newi (a := 58) f_26_56 rfl (by simp [hs]) ⟨rfl, by decide, rfl⟩ ?_
  refine r_putr f_26_58 rfl (by decide) rfl (by decide) rfl ?_
  refine r_aload_n (v := 54) f_26_61 rfl (by decide) ?_
  refine r_bipush f_26_62 (by decide) ?_
  refine r_newi (a := 59) f_26_64 rfl (by simp [hs]) ⟨rfl, by decide, rfl⟩ ?_
  refine r_putr f_26_66 rfl (by decide) rfl (by decide) rfl ?_
  refine r_aload_n (v := 54) f_26_69 rfl (by decide) ?_
  refine r_bipush f_26_70 (by decide) ?_
  refine r_newi (a := 60) f_26_72 rfl (by simp [hs]) ⟨rfl, by decide, rfl⟩ ?_
  refine r_putr f_26_74 rfl (by decide) rfl (by decide) rfl ?_
  refine r_aload_n (v := 54) f_26_77 rfl (by decide) ?_
  refine r_bipush f_26_78 (by decide) ?_
  refine r_newi (a := 61) f_26_80 rfl (by simp [hs]) ⟨rfl, by decide, rfl⟩ ?_
  refine r_putr f_26_82 rfl (by decide) rfl (by decide) rfl ?_
  refine r_aload_n (v := 54) f_26_85 rfl (by decide) ?_
  refine r_iconst f_26_86 (by decide) ?_
  refine r_puti f_26_87 rfl (by decide) ?_
  exact r_retv f_26_90 rfl k2

theorem gc68_Fl_init_0 {Q : PQ} {h : HP}  
    (o1 : h 1002 0 = 69)
    (k2 : Q none (hs (hs (hs (hs (hs (hs (hs (hs (hs (hs (hs (hs (hs (hs (hs (hs (hs (hs (hs (hs h 68 0 0) 68 1 0) 68 2 9) 68 3 0) 68 4 0) 1002 0 70) 68 5 1) 1002 0 71) 68 6 1) 1002 0 72) 68 7 1) 1002 0 73) 68 8 1) 1002 0 74) 68 9 1) 1002 0 75) 68 10 1) 1002 0 76) 68 11 1) 68 12 0)) :
    Wp false i_Fl_init 0 [vr 68] [] h Q := by
  refine r_aload_n (v := 68) f_26_0 rfl (by decide) ?_
  refine r_objInit f_26_1 (by decide) ?_
  refine r_aload_n (v := 68) f_26_4 rfl (by decide) ?_
  refine r_iconst f_26_5 (by decide) ?_
  refine r_puti f_26_6 rfl (by decide) ?_
  refine r_aload_n (v := 68) f_26_9 rfl (by decide) ?_
  refine r_iconst f_26_10 (by decide) ?_
  refine r_puti f_26_11 rfl (by decide) ?_
  refine r_aload_n (v := 68) f_26_14 rfl (by decide) ?_
  refine r_bipush f_26_15 (by decide) ?_
  refine r_puti f_26_17 rfl (by decide) ?_
  refine r_aload_n (v := 68) f_26_20 rfl (by decide) ?_
  refine r_iconst f_26_21 (by decide) ?_
  refine r_puti f_26_22 rfl (by decide) ?_
  refine r_aload_n (v := 68) f_26_25 rfl (by decide) ?_
  refine r_iconst f_26_26 (by decide) ?_
  refine r_puti f_26_27 rfl (by decide) ?_
  refine r_aload_n (v := 68) f_26_30 rfl (by decide) ?_
  refine r_iconst f_26_31 (by decide) ?_
  refine r_newi (a := 69) f_26_32 rfl o1 ⟨rfl, by decide, rfl⟩ ?_
  refine r_putr f_26_34 rfl (by decide) rfl (by decide) rfl ?_
  refine r_aload_n (v := 68) f_26_37 rfl (by decide) ?_
  refine r_bipush f_26_38 (by decide) ?_
  refine r_newi (a := 70) f_26_40 rfl (by simp [hs]) ⟨rfl, by decide, rfl⟩ ?_
  refine r_putr f_26_42 rfl (by decide) rfl (by decide) rfl ?_
  refine r_aload_n (v := 68) f_26_45 rfl (by decide) ?_
  refine r_bipush f_26_46 (by decide) ?_
  refine r_newj (a := 71) f_26_48 rfl (by simp [hs]) ⟨rfl, by decide, rfl⟩ ?_
  refine r_putr f_26_50 rfl (by decide) rfl (by decide) rfl ?_
  refine r_aload_n (v := 68) f_26_53 rfl (by decide) ?_
  refine r_bipush f_26_54 (by decide) ?_
  refine r_newi (a := 72) f_26_56 rfl (by simp [hs]) ⟨rfl, by decide, rfl⟩ ?_
  refine r_putr f_26_58 rfl (by decide) rfl (by decide) rfl ?_
  refine r_aload_n (v := 68) f_26_61 rfl (by decide) ?_
  refine r_bipush f_26_62 (by decide) ?_
  refine r_newi (a := 73) f_26_64 rfl (by simp [hs]) ⟨rfl, by decide, rfl⟩ ?_
  refine r_putr f_26_66 rfl (by decide) rfl (by decide) rfl ?_
  refine r_aload_n (v := 68) f_26_69 rfl (by decide) ?_
  refine r_bipush f_26_70 (by decide) ?_
  refine r_newi (a := 74) f_26_72 rfl (by simp [hs]) ⟨rfl, by decide, rfl⟩ ?_
  refine r_putr f_26_74 rfl (by decide) rfl (by decide) rfl ?_
  refine r_aload_n (v := 68) f_26_77 rfl (by decide) ?_
  refine r_bipush f_26_78 (by decide) ?_
  refine r_newi (a := 75) f_26_80 rfl (by simp [hs]) ⟨rfl, by decide, rfl⟩ ?_
  refine r_putr f_26_82 rfl (by decide) rfl (by decide) rfl ?_
  refine r_aload_n (v := 68) f_26_85 rfl (by decide) ?_
  refine r_iconst f_26_86 (by decide) ?_
  refine r_puti f_26_87 rfl (by decide) ?_
  exact r_retv f_26_90 rfl k2

theorem gc26_Ta_init_0 {Q : PQ} {h : HP}  
    (o1 : h 1002 0 = 27)
    (k2 : Q none (hs (hs (hs (hs (hs (hs (hs (hs (hs (hs (hs (hs (hs h 26 0 0) 26 1 0) 26 2 0) 1002 0 28) 26 3 1) 1002 0 29) 26 4 1) 1002 0 30) 26 5 1) 1002 0 31) 26 6 1) 1002 0 32) 26 7 1)) :
    Wp false i_Ta_init 0 [vr 26] [] h Q := by
  refine r_aload_n (v := 26) f_102_0 rfl (by decide) ?_
  refine r_objInit f_102_1 (by decide) ?_
  refine r_aload_n (v := 26) f_102_4 rfl (by decide) ?_
  refine r_iconst f_102_5 (by decide) ?_
  refine r_putz f_102_6 rfl (by decide) (by decide) ?_
  refine r_aload_n (v := 26) f_102_9 rfl (by decide) ?_
  refine r_iconst f_102_10 (by decide) ?_
  refine r_puti f_102_11 rfl (by decide) ?_
  refine r_aload_n (v := 26) f_102_14 rfl (by decide) ?_
  refine r_iconst f_102_15 (by decide) ?_
  refine r_puti f_102_16 rfl (by decide) ?_
  refine r_aload_n (v := 26) f_102_19 rfl (by decide) ?_
  refine r_bipush f_102_20 (by decide) ?_
  refine r_newi (a := 27) f_102_22 rfl o1 ⟨rfl, by decide, rfl⟩ ?_
  refine r_putr f_102_24 rfl (by decide) rfl (by decide) rfl ?_
  refine r_aload_n (v := 26) f_102_27 rfl (by decide) ?_
  refine r_bipush f_102_28 (by decide) ?_
  refine r_newi (a := 28) f_102_30 rfl (by simp [hs]) ⟨rfl, by decide, rfl⟩ ?_
  refine r_putr f_102_32 rfl (by decide) rfl (by decide) rfl ?_
  refine r_aload_n (v := 26) f_102_35 rfl (by decide) ?_
  refine r_bipush f_102_36 (by decide) ?_
  refine r_newi (a := 29) f_102_38 rfl (by simp [hs]) ⟨rfl, by decide, rfl⟩ ?_
  refine r_putr f_102_40 rfl (by decide) rfl (by decide) rfl ?_
  refine r_aload_n (v := 26) f_102_43 rfl (by decide) ?_
  refine r_bipush f_102_44 (by decide) ?_
  refine r_newi (a := 30) f_102_46 rfl (by simp [hs]) ⟨rfl, by decide, rfl⟩ ?_
  refine r_putr f_102_48 rfl (by decide) rfl (by decide) rfl ?_
  refine r_aload_n (v := 26) f_102_51 rfl (by decide) ?_
  refine r_bipush f_102_52 (by decide) ?_
  refine r_newi (a := 31) f_102_54 rfl (by simp [hs]) ⟨rfl, by decide, rfl⟩ ?_
  refine r_putr f_102_56 rfl (by decide) rfl (by decide) rfl ?_
  exact r_retv f_102_59 rfl k2

theorem gc32_Ta_init_0 {Q : PQ} {h : HP}  
    (o1 : h 1002 0 = 33)
    (k2 : Q none (hs (hs (hs (hs (hs (hs (hs (hs (hs (hs (hs (hs (hs h 32 0 0) 32 1 0) 32 2 0) 1002 0 34) 32 3 1) 1002 0 35) 32 4 1) 1002 0 36) 32 5 1) 1002 0 37) 32 6 1) 1002 0 38) 32 7 1)) :
    Wp false i_Ta_init 0 [vr 32] [] h Q := by
  refine r_aload_n (v := 32) f_102_0 rfl (by decide) ?_
  refine r_objInit f_102_1 (by decide) ?_
  refine r_aload_n (v := 32) f_102_4 rfl (by decide) ?_
  refine r_iconst f_102_5 (by decide) ?_
  refine r_putz f_102_6 rfl (by decide) (by decide) ?_
  refine r_aload_n (v := 32) f_102_9 rfl (by decide) ?_
  refine r_iconst f_102_10 (by decide) ?_
  refine r_puti f_102_11 rfl (by decide) ?_
  refine r_aload_n (v := 32) f_102_14 rfl (by decide) ?_
  refine r_iconst f_102_15 (by decide) ?_
  refine r_puti f_102_16 rfl (by decide) ?_
  refine r_aload_n (v := 32) f_102_19 rfl (by decide) ?_
  refine r_bipush f_102_20 (by decide) ?_
  refine r_newi (a := 33) f_102_22 rfl o1 ⟨rfl, by decide, rfl⟩ ?_
  refine r_putr f_102_24 rfl (by decide) rfl (by decide) rfl ?_
  refine r_aload_n (v := 32) f_102_27 rfl (by decide) ?_
  refine r_bipush f_102_28 (by decide) ?_
  refine r_newi (a := 34) f_102_30 rfl (by simp [hs]) ⟨rfl, by decide, rfl⟩ ?_
  refine r_putr f_102_32 rfl (by decide) rfl (by decide) rfl ?_
  refine r_aload_n (v := 32) f_102_35 rfl (by decide) ?_
  refine r_bipush f_102_36 (by decide) ?_
  refine r_newi (a := 35) f_102_38 rfl (by simp [hs]) ⟨rfl, by decide, rfl⟩ ?_
  refine r_putr f_102_40 rfl (by decide) rfl (by decide) rfl ?_
  refine r_aload_n (v := 32) f_102_43 rfl (by decide) ?_
  refine r_bipush f_102_44 (by decide) ?_
  refine r_newi (a := 36) f_102_46 rfl (by simp [hs]) ⟨rfl, by decide, rfl⟩ ?_
  refine r_putr f_102_48 rfl (by decide) rfl (by decide) rfl ?_
  refine r_aload_n (v := 32) f_102_51 rfl (by decide) ?_
  refine r_bipush f_102_52 (by decide) ?_
  refine r_newi (a := 37) f_102_54 rfl (by simp [hs]) ⟨rfl, by decide, rfl⟩ ?_
  refine r_putr f_102_56 rfl (by decide) rfl (by decide) rfl ?_
  exact r_retv f_102_59 rfl k2

theorem gc48_Ta_init_0 {Q : PQ} {h : HP}  
    (o1 : h 1002 0 = 49)
    (k2 : Q none (hs (hs (hs (hs (hs (hs (hs (hs (hs (hs (hs (hs (hs h 48 0 0) 48 1 0) 48 2 0) 1002 0 50) 48 3 1) 1002 0 51) 48 4 1) 1002 0 52) 48 5 1) 1002 0 53) 48 6 1) 1002 0 54) 48 7 1)) :
    Wp false i_Ta_init 0 [vr 48] [] h Q := by
  refine r_aload_n (v := 48) f_102_0 rfl (by decide) ?_
  refine r_objInit f_102_1 (by decide) ?_
  refine r_aload_n (v := 48) f_102_4 rfl (by decide) ?_
  refine r_iconst f_102_5 (by decide) ?_
  refine r_putz f_102_6 rfl (by decide) (by decide) ?_
  refine r_aload_n (v := 48) f_102_9 rfl (by decide) ?_
  refine r_iconst f_102_10 (by decide) ?_
  refine r_puti f_102_11 rfl (by decide) ?_
  refine r_aload_n (v := 48) f_102_14 rfl (by decide) ?_
  refine r_iconst f_102_15 (by decide) ?_
  refine r_puti f_102_16 rfl (by decide) ?_
  refine r_aload_n (v := 48) f_102_19 rfl (by decide) ?_
  refine r_bipush f_102_20 (by decide) ?_
  refine r_newi (a := 49) f_102_22 rfl o1 ⟨rfl, by decide, rfl⟩ ?_
  refine r_putr f_102_24 rfl (by decide) rfl (by decide) rfl ?_
  refine r_aload_n (v := 48) f_102_27 rfl (by decide) ?_
  refine r_bipush f_102_28 (by decide) ?_
  refine r_newi (a := 50) f_102_30 rfl (by simp [hs]) ⟨rfl, by decide, rfl⟩ ?_
  refine r_putr f_102_32 rfl (by decide) rfl (by decide) rfl ?_
  refine r_aload_n (v := 48) f_102_35 rfl (by decide) ?_
  refine r_bipush f_102_36 (by decide) ?_
  refine r_newi (a := 51) f_102_38 rfl (by simp [hs]) ⟨rfl, by decide, rfl⟩ ?_
  refine r_putr f_102_40 rfl (by decide) rfl (by decide) rfl ?_
  refine r_aload_n (v := 48) f_102_43 rfl (by decide) ?_
  refine r_bipush f_102_44 (by decide) ?_
  refine r_newi (a := 52) f_102_46 rfl (by simp [hs]) ⟨rfl, by decide, rfl⟩ ?_
  refine r_putr f_102_48 rfl (by decide) rfl (by decide) rfl ?_
  refine r_aload_n (v := 48) f_102_51 rfl (by decide) ?_
  refine r_bipush f_102_52 (by decide) ?_
  refine r_newi (a := 53) f_102_54 rfl (by simp [hs]) ⟨rfl, by decide, rfl⟩ ?_
  refine r_putr f_102_56 rfl (by decide) rfl (by decide) rfl ?_
  exact r_retv f_102_59 rfl k2

theorem gc62_Ta_init_0 {Q : PQ} {h : HP}  
    (o1 : h 1002 0 = 63)
    (k2 : Q none (hs (hs (hs (hs (hs (hs (hs (hs (hs (hs (hs (hs (hs h 62 0 0) 62 1 0) 62 2 0) 1002 0 64) 62 3 1) 1002 0 65) 62 4 1) 1002 0 66) 62 5 1) 1002 0 67) 62 6 1) 1002 0 68) 62 7 1)) :
    Wp false i_Ta_init 0 [vr 62] [] h Q := by
  refine r_aload_n (v := 62) f_102_0 rfl (by decide) ?_
  refine r_objInit f_102_1 (by decide) ?_
  refine r_aload_n (v := 62) f_102_4 rfl (by decide) ?_
  refine r_iconst f_102_5 (by decide) ?_
  refine r_putz f_102_6 rfl (by decide) (by decide) ?_
  refine r_aload_n (v := 62) f_102_9 rfl (by decide) ?_
  refine r_iconst f_102_10 (by decide) ?_
  refine r_puti f_102_11 rfl (by decide) ?_
  refine r_aload_n (v := 62) f_102_14 rfl (by decide) ?_
  refine r_iconst f_102_15 (by decide) ?_
  refine r_puti f_102_16 rfl (by decide) ?_
  refine r_aload_n (v := 62) f_102_19 rfl (by decide) ?_
  refine r_bipush f_102_20 (by decide) ?_
  refine r_newi (a := 63) f_102_22 rfl o1 ⟨rfl, by decide, rfl⟩ ?_
  refine r_putr f_102_24 rfl (by decide) rfl (by decide) rfl ?_
  refine r_aload_n (v := 62) f_102_27 rfl (by decide) ?_
  refine r_bipush f_102_28 (by decide) ?_
  refine r_newi (a := 64) f_102_30 rfl (by simp [hs]) ⟨rfl, by decide, rfl⟩ ?_
  refine r_putr f_102_32 rfl (by decide) rfl (by decide) rfl ?_
  refine r_aload_n (v := 62) f_102_35 rfl (by decide) ?_
  refine r_bipush f_102_36 (by decide) ?_
  refine r_newi (a := 65) f_102_38 rfl (by simp [hs]) ⟨rfl, by decide, rfl⟩ ?_
  refine r_putr f_102_40 rfl (by decide) rfl (by decide) rfl ?_
  refine r_aload_n (v := 62) f_102_43 rfl (by decide) ?_
  refine r_bipush f_102_44 (by decide) ?_
  refine r_newi (a := 66) f_102_46 rfl (by simp [hs]) ⟨rfl, by decide, rfl⟩ ?_
  refine r_putr f_102_48 rfl (by decide) rfl (by decide) rfl ?_
  refine r_aload_n (v := 62) f_102_51 rfl (by decide) ?_
  refine r_bipush f_102_52 (by decide) ?_
  refine r_newi (a := 67) f_102_54 rfl (by simp [hs]) ⟨rfl, by decide, rfl⟩ ?_
  refine r_putr f_102_56 rfl (by decide) rfl (by decide) rfl ?_
  exact r_retv f_102_59 rfl k2

theorem gc76_Ta_init_0 {Q : PQ} {h : HP}  
    (o1 : h 1002 0 = 77)
    (k2 : Q none (hs (hs (hs (hs (hs (hs (hs (hs (hs (hs (hs (hs (hs h 76 0 0) 76 1 0) 76 2 0) 1002 0 78) 76 3 1) 1002 0 79) 76 4 1) 1002 0 80) 76 5 1) 1002 0 81) 76 6 1) 1002 0 82) 76 7 1)) :
    Wp false i_Ta_init 0 [vr 76] [] h Q := by
  refine r_aload_n (v := 76) f_102_0 rfl (by decide) ?_
  refine r_objInit f_102_1 (by decide) ?_
  refine r_aload_n (v := 76) f_102_4 rfl (by decide) ?_
  refine r_iconst f_102_5 (by decide) ?_
  refine r_putz f_102_6 rfl (by decide) (by decide) ?_
  refine r_aload_n (v := 76) f_102_9 rfl (by decide) ?_
  refine r_iconst f_102_10 (by decide) ?_
  refine r_puti f_102_11 rfl (by decide) ?_
  refine r_aload_n (v := 76) f_102_14 rfl (by decide) ?_
  refine r_iconst f_102_15 (by decide) ?_
  refine r_puti f_102_16 rfl (by decide) ?_
  refine r_aload_n (v := 76) f_102_19 rfl (by decide) ?_
  refine r_bipush f_102_20 (by decide) ?_
  refine r_newi (a := 77) f_102_22 rfl o1 ⟨rfl, by decide, rfl⟩ ?_
  refine r_putr f_102_24 rfl (by decide) rfl (by decide) rfl ?_
  refine r_aload_n (v := 76) f_102_27 rfl (by decide) ?_
  refine r_bipush f_102_28 (by decide) ?_
  refine r_newi (a := 78) f_102_30 rfl (by simp [hs]) ⟨rfl, by decide, rfl⟩ ?_
  refine r_putr f_102_32 rfl (by decide) rfl (by decide) rfl ?_
  refine r_aload_n (v := 76) f_102_35 rfl (by decide) ?_
  refine r_bipush f_102_36 (by decide) ?_
  refine r_newi (a := 79) f_102_38 rfl (by simp [hs]) ⟨rfl, by decide, rfl⟩ ?_
  refine r_putr f_102_40 rfl (by decide) rfl (by decide) rfl ?_
  refine r_aload_n (v := 76) f_102_43 rfl (by decide) ?_
  refine r_bipush f_102_44 (by decide) ?_
  refine r_newi (a := 80) f_102_46 rfl (by simp [hs]) ⟨rfl, by decide, rfl⟩ ?_
  refine r_putr f_102_48 rfl (by decide) rfl (by decide) rfl ?_
  refine r_aload_n (v := 76) f_102_51 rfl (by decide) ?_
  refine r_bipush f_102_52 (by decide) ?_
  refine r_newi (a := 81) f_102_54 rfl (by simp [hs]) ⟨rfl, by decide, rfl⟩ ?_
  refine r_putr f_102_56 rfl (by decide) rfl (by decide) rfl ?_
  exact r_retv f_102_59 rfl k2

theorem gc_C_init_0 {Q : PQ} {h : HP}  
    (o1 : h 1002 0 = 1)
    (k2 : Wp false i_Ty_init 0 [vr 1] [] (hs (hs (hs (hs h 0 0 0) 0 1 0) 0 2 1) 1002 0 2) (fun r h' => Wp false i_C_init 27 [vr 0, vr 9999] (r.toList ++ [vr 1, vr 0]) h' Q)) :
    Wp false i_C_init 0 [vr 0, vr 9999] [] h Q := by
  refine r_aload_n (v := 0) f_141_0 rfl (by decide) ?_
  refine r_objInit f_141_1 (by decide) ?_
  refine r_aload_n (v := 0) f_141_4 rfl (by decide) ?_
  refine r_iconst f_141_5 (by decide) ?_
  refine r_puti f_141_6 rfl (by decide) ?_
  refine r_aload_n (v := 0) f_141_9 rfl (by decide) ?_
  refine r_lconst (v := 0) f_141_10 rfl ?_
  refine r_putj f_141_11 rfl (by decide) ?_
  refine r_aload_n (v := 0) f_141_14 rfl (by decide) ?_
  refine r_lconst (v := 1) f_141_15 rfl ?_
  refine r_putj f_141_16 rfl (by decide) ?_
  refine r_aload_n (v := 0) f_141_19 rfl (by decide) ?_
  refine r_new (a := 1) f_141_20 rfl o1 ⟨by decide, rfl, by decide⟩ ?_
  refine r_dupr f_141_23 ?_
  exact r_calli (as := [vr 1]) (st' := [vr 1, vr 0]) (ls0 := [vr 1]) f_141_24 (by decide) rfl rfl (Nat.le_of_ble_eq_true rfl) (Nat.le_of_ble_eq_true rfl) ⟨_, _, rfl, rfl⟩ rfl k2

theorem gc_C_init_27 {Q : PQ} {h : HP}  
    (o1 : h 1002 0 = 5)
    (k2 : Wp false i_To_init 0 [vr 5, vr 9999, vr 9999, vr 9999] [] (hs (hs h 0 3 1) 1002 0 6) (fun r h' => Wp false i_C_init 38 [vr 0, vr 9999] (r.toList ++ [vr 5, vr 0]) h' Q)) :
    Wp false i_C_init 27 [vr 0, vr 9999] [vr 1, vr 0] h Q := by
  refine r_putr f_141_27 rfl (by decide) rfl (by decide) rfl ?_
  refine r_aload_n (v := 0) f_141_30 rfl (by decide) ?_
  refine r_new (a := 5) f_141_31 rfl o1 ⟨by decide, rfl, by decide⟩ ?_
  refine r_dupr f_141_34 ?_
  exact r_calli (as := [vr 5]) (st' := [vr 5, vr 0]) (ls0 := [vr 5, vr 9999, vr 9999, vr 9999]) f_141_35 (by decide) rfl rfl (Nat.le_of_ble_eq_true rfl) (Nat.le_of_ble_eq_true rfl) ⟨_, _, rfl, rfl⟩ rfl k2

theorem gc_C_init_38 {Q : PQ} {h : HP}  
    (o1 : h 1002 0 = 8)
    (k2 : Wp false i_Rr_init 0 [vr 8] [] (hs (hs h 0 4 1) 1002 0 9) (fun r h' => Wp false i_C_init 49 [vr 0, vr 9999] (r.toList ++ [vr 8, vr 0]) h' Q)) :
    Wp false i_C_init 38 [vr 0, vr 9999] [vr 5, vr 0] h Q := by
  refine r_putr f_141_38 rfl (by decide) rfl (by decide) rfl ?_
  refine r_aload_n (v := 0) f_141_41 rfl (by decide) ?_
  refine r_new (a := 8) f_141_42 rfl o1 ⟨by decide, rfl, by decide⟩ ?_
  refine r_dupr f_141_45 ?_
  exact r_calli (as := [vr 8]) (st' := [vr 8, vr 0]) (ls0 := [vr 8]) f_141_46 (by decide) rfl rfl (Nat.le_of_ble_eq_true rfl) (Nat.le_of_ble_eq_true rfl) ⟨_, _, rfl, rfl⟩ rfl k2

theorem gc_C_init_49 {Q : PQ} {h : HP}  
    (o1 : h 1002 0 = 9)
    (k2 : Wp false i_Tr_init 0 [vr 9] [] (hs (hs h 0 5 1) 1002 0 10) (fun r h' => Wp false i_C_init 60 [vr 0, vr 9999] (r.toList ++ [vr 9, vr 0]) h' Q)) :
    Wp false i_C_init 49 [vr 0, vr 9999] [vr 8, vr 0] h Q := by
  refine r_putr f_141_49 rfl (by decide) rfl (by decide) rfl ?_
  refine r_aload_n (v := 0) f_141_52 rfl (by decide) ?_
  refine r_new (a := 9) f_141_53 rfl o1 ⟨by decide, rfl, by decide⟩ ?_
  refine r_dupr f_141_56 ?_
  exact r_calli (as := [vr 9]) (st' := [vr 9, vr 0]) (ls0 := [vr 9]) f_141_57 (by decide) rfl rfl (Nat.le_of_ble_eq_true rfl) (Nat.le_of_ble_eq_true rfl) ⟨_, _, rfl, rfl⟩ rfl k2

theorem gc_C_init_60 {Q : PQ} {h : HP}  
    (o1 : h 1002 0 = 10)
    (k2 : Wp false i_Fl_init 0 [vr 10] [] (hs (hs h 0 6 1) 1002 0 11) (fun r h' => Wp false i_C_init 71 [vr 0, vr 9999] (r.toList ++ [vr 10, vr 0]) h' Q)) :
    Wp false i_C_init 60 [vr 0, vr 9999] [vr 9, vr 0] h Q := by
  refine r_putr f_141_60 rfl (by decide) rfl (by decide) rfl ?_
  refine r_aload_n (v := 0) f_141_63 rfl (by decide) ?_
  refine r_new (a := 10) f_141_64 rfl o1 ⟨by decide, rfl, by decide⟩ ?_
  refine r_dupr f_141_67 ?_
  exact r_calli (as := [vr 10]) (st' := [vr 10, vr 0]) (ls0 := [vr 10]) f_141_68 (by decide) rfl rfl (Nat.le_of_ble_eq_true rfl) (Nat.le_of_ble_eq_true rfl) ⟨_, _, rfl, rfl⟩ rfl k2

theorem gc_C_init_71 {Q : PQ} {h : HP}  
    (o1 : h 1002 0 = 18)
    (k2 : Wp false i_Fl_init 0 [vr 18] [] (hs (hs h 0 7 1) 1002 0 19) (fun r h' => Wp false i_C_init 82 [vr 0, vr 9999] (r.toList ++ [vr 18, vr 0]) h' Q)) :
    Wp false i_C_init 71 [vr 0, vr 9999] [vr 10, vr 0] h Q := by
  refine r_putr f_141_71 rfl (by decide) rfl (by decide) rfl ?_
  refine r_aload_n (v := 0) f_141_74 rfl (by decide) ?_
  refine r_new (a := 18) f_141_75 rfl o1 ⟨by decide, rfl, by decide⟩ ?_
  refine r_dupr f_141_78 ?_
  exact r_calli (as := [vr 18]) (st' := [vr 18, vr 0]) (ls0 := [vr 18]) f_141_79 (by decide) rfl rfl (Nat.le_of_ble_eq_true rfl) (Nat.le_of_ble_eq_true rfl) ⟨_, _, rfl, rfl⟩ rfl k2

theorem gc_C_init_82 {Q : PQ} {h : HP}  
    (o1 : h 1002 0 = 26)
    (k2 : Wp false i_Ta_init 0 [vr 26] [] (hs (hs h 0 8 1) 1002 0 27) (fun r h' => Wp false i_C_init 93 [vr 0, vr 9999] (r.toList ++ [vr 26, vr 0]) h' Q)) :
    Wp false i_C_init 82 [vr 0, vr 9999] [vr 18, vr 0] h Q := by
  refine r_putr f_141_82 rfl (by decide) rfl (by decide) rfl ?_
  refine r_aload_n (v := 0) f_141_85 rfl (by decide) ?_
  refine r_new (a := 26) f_141_86 rfl o1 ⟨by decide, rfl, by decide⟩ ?_
  refine r_dupr f_141_89 ?_
  exact r_calli (as := [vr 26]) (st' := [vr 26, vr 0]) (ls0 := [vr 26]) f_141_90 (by decide) rfl rfl (Nat.le_of_ble_eq_true rfl) (Nat.le_of_ble_eq_true rfl) ⟨_, _, rfl, rfl⟩ rfl k2

theorem gc_C_init_93 {Q : PQ} {h : HP}  
    (o1 : h 1002 0 = 32)
    (k2 : Wp false i_Ta_init 0 [vr 32] [] (hs (hs h 0 9 1) 1002 0 33) (fun r h' => Wp false i_C_init 104 [vr 0, vr 9999] (r.toList ++ [vr 32, vr 0]) h' Q)) :
    Wp false i_C_init 93 [vr 0, vr 9999] [vr 26, vr 0] h Q := by
  refine r_putr f_141_93 rfl (by decide) rfl (by decide) rfl ?_
  refine r_aload_n (v := 0) f_141_96 rfl (by decide) ?_
  refine r_new (a := 32) f_141_97 rfl o1 ⟨by decide, rfl, by decide⟩ ?_
  refine r_dupr f_141_100 ?_
  exact r_calli (as := [vr 32]) (st' := [vr 32, vr 0]) (ls0 := [vr 32]) f_141_101 (by decide) rfl rfl (Nat.le_of_ble_eq_true rfl) (Nat.le_of_ble_eq_true rfl) ⟨_, _, rfl, rfl⟩ rfl k2

theorem gc_C_init_104 {Q : PQ} {h : HP}  
    (o1 : h 1002 0 = 38)
    (k2 : Wp false i_C_init 125 [vr 0, vi 0] [] (hs (hs (hs (hs (hs h 0 10 1) 1002 0 39) 0 11 1) 1002 0 40) 0 12 1) Q) :
    Wp false i_C_init 104 [vr 0, vr 9999] [vr 32, vr 0] h Q := by
  refine r_putr f_141_104 rfl (by decide) rfl (by decide) rfl ?_
  refine r_aload_n (v := 0) f_141_107 rfl (by decide) ?_
  refine r_iconst f_141_108 (by decide) ?_
  refine r_newq (a := 38) f_141_109 rfl o1 ⟨by decide, by decide, rfl⟩ ?_
  refine r_putr f_141_112 rfl (by decide) rfl (by decide) rfl ?_
  refine r_aload_n (v := 0) f_141_115 rfl (by decide) ?_
  refine r_iconst f_141_116 (by decide) ?_
  refine r_newq (a := 39) f_141_117 rfl (by simp [hs]) ⟨by decide, by decide, rfl⟩ ?_
  refine r_putr f_141_120 rfl (by decide) rfl (by decide) rfl ?_
  refine r_iconst f_141_123 (by decide) ?_
  refine r_istore_n (ls' := [vr 0, vi 0]) f_141_124 (Nat.le_of_ble_eq_true rfl) rfl ?_
  exact k2

theorem gc0_C_init_125 {Q : PQ} {h : HP}  
    (o1 : h 0 11 = 1)
    (o2 : h 1002 0 = 40)
    (k3 : Wp false i_Fl_init 0 [vr 40] [] (hs h 1002 0 41) (fun r h' => Wp false i_C_init 142 [vr 0, vi 0] (r.toList ++ [vr 40, vi 0, vr 38]) h' Q)) :
    Wp false i_C_init 125 [vr 0, vi 0] [] h Q := by
  refine r_iload_n (v := 0) f_141_125 rfl ?_
  refine r_iconst f_141_126 (by decide) ?_
  refine r_br2 (t := 162) f_141_127 rfl cb_ge (fun c => absurd c (by decide)) (fun _ => ?_)
  refine r_aload_n (v := 0) f_141_130 rfl (by decide) ?_
  refine r_getr (q := 38) f_141_131 rfl (by decide) (Or.inr o1) rfl ?_
  refine r_iload_n (v := 0) f_141_134 rfl ?_
  refine r_new (a := 40) f_141_135 rfl o2 ⟨by decide, rfl, by decide⟩ ?_
  refine r_dupr f_141_138 ?_
  exact r_calli (as := [vr 40]) (st' := [vr 40, vi 0, vr 38]) (ls0 := [vr 40]) f_141_139 (by decide) rfl rfl (Nat.le_of_ble_eq_true rfl) (Nat.le_of_ble_eq_true rfl) ⟨_, _, rfl, rfl⟩ rfl k3

theorem gc0_C_init_142 {Q : PQ} {h : HP} {s1 : Int} 
    (o1 : 0 ≤ s1 ∧ s1 < 3)
    (o2 : zck 40 = 3)
    (o3 : 40 = 40 + 14 * s1.toNat)
    (o4 : h 0 12 = 1)
    (o5 : h 1002 0 = 48)
    (k6 : Wp false i_Ta_init 0 [vr 48] [] (hs (hs h 38 s1.toNat 1) 1002 0 49) (fun r h' => Wp false i_C_init 155 [vr 0, vi 0] (r.toList ++ [vr 48, vi 0, vr 39]) h' Q)) :
    Wp false i_C_init 142 [vr 0, vi 0] [vr 40, vi s1, vr 38] h Q := by
  refine r_aastore (n := 3) f_141_142 rfl ⟨Or.inl ⟨rfl, o2⟩, rfl⟩ o1 o3 ?_
  refine r_aload_n (v := 0) f_141_143 rfl (by decide) ?_
  refine r_getr (q := 39) f_141_144 rfl (by decide) (Or.inr (by simp [hs]; exact o4)) rfl ?_
  refine r_iload_n (v := 0) f_141_147 rfl ?_
  refine r_new (a := 48) f_141_148 rfl o5 ⟨by decide, rfl, by decide⟩ ?_
  refine r_dupr f_141_151 ?_
  exact r_calli (as := [vr 48]) (st' := [vr 48, vi 0, vr 39]) (ls0 := [vr 48]) f_141_152 (by decide) rfl rfl (Nat.le_of_ble_eq_true rfl) (Nat.le_of_ble_eq_true rfl) ⟨_, _, rfl, rfl⟩ rfl k6

theorem gc0_C_init_155 {Q : PQ} {h : HP} {s1 : Int} 
    (o1 : 0 ≤ s1 ∧ s1 < 3)
    (o2 : zck 48 = 7)
    (o3 : 48 = 48 + 14 * s1.toNat)
    (k4 : Wp false i_C_init 125 [vr 0, vi 1] [] (hs h 39 s1.toNat 1) Q) :
    Wp false i_C_init 155 [vr 0, vi 0] [vr 48, vi s1, vr 39] h Q := by
  refine r_aastore (n := 3) f_141_155 rfl ⟨Or.inr ⟨rfl, o2⟩, rfl⟩ o1 o3 ?_
  refine r_iinc (v := 0) (w := 1) (ls' := [vr 0, vi 1]) f_141_156 rfl rfl (by decide) rfl ?_
  refine r_goto (t := 125) f_141_159 rfl ?_
  exact k4

theorem gc1_C_init_125 {Q : PQ} {h : HP}  
    (o1 : h 0 11 = 1)
    (o2 : h 1002 0 = 54)
    (k3 : Wp false i_Fl_init 0 [vr 54] [] (hs h 1002 0 55) (fun r h' => Wp false i_C_init 142 [vr 0, vi 1] (r.toList ++ [vr 54, vi 1, vr 38]) h' Q)) :
    Wp false i_C_init 125 [vr 0, vi 1] [] h Q := by
  refine r_iload_n (v := 1) f_141_125 rfl ?_
  refine r_iconst f_141_126 (by decide) ?_
  refine r_br2 (t := 162) f_141_127 rfl cb_ge (fun c => absurd c (by decide)) (fun _ => ?_)
  refine r_aload_n (v := 0) f_141_130 rfl (by decide) ?_
  refine r_getr (q := 38) f_141_131 rfl (by decide) (Or.inr o1) rfl ?_
  refine r_iload_n (v := 1) f_141_134 rfl ?_
  refine r_new (a := 54) f_141_135 rfl o2 ⟨by decide, rfl, by decide⟩ ?_
  refine r_dupr f_141_138 ?_
  exact r_calli (as := [vr 54]) (st' := [vr 54, vi 1, vr 38]) (ls0 := [vr 54]) f_141_139 (by decide) rfl rfl (Nat.le_of_ble_eq_true rfl) (Nat.le_of_ble_eq_true rfl) ⟨_, _, rfl, rfl⟩ rfl k3

theorem gc1_C_init_142 {Q : PQ} {h : HP} {s1 : Int} 
    (o1 : 0 ≤ s1 ∧ s1 < 3)
    (o2 : zck 54 = 3)
    (o3 : 54 = 40 + 14 * s1.toNat)
    (o4 : h 0 12 = 1)
    (o5 : h 1002 0 = 62)
    (k6 : Wp false i_Ta_init 0 [vr 62] [] (hs (hs h 38 s1.toNat 1) 1002 0 63) (fun r h' => Wp false i_C_init 155 [vr 0, vi 1] (r.toList ++ [vr 62, vi 1, vr 39]) h' Q)) :
    Wp false i_C_init 142 [vr 0, vi 1] [vr 54, vi s1, vr 38] h Q := by
  refine r_aastore (n := 3) f_141_142 rfl ⟨Or.inl ⟨rfl, o2⟩, rfl⟩ o1 o3 ?_
  refine r_aload_n (v := 0) f_141_143 rfl (by decide) ?_
  refine r_getr (q := 39) f_141_144 rfl (by decide) (Or.inr (by simp [hs]; exact o4)) rfl ?_
  refine r_iload_n (v := 1) f_141_147 rfl ?_
  refine r_new (a := 62) f_141_148 rfl o5 ⟨by decide, rfl, by decide⟩ ?_
  refine r_dupr f_141_151 ?_
  exact r_calli (as := [vr 62]) (st' := [vr 62, vi 1, vr 39]) (ls0 := [vr 62]) f_141_152 (by decide) rfl rfl (Nat.le_of_ble_eq_true rfl) (Nat.le_of_ble_eq_true rfl) ⟨_, _, rfl, rfl⟩ rfl k6

theorem gc1_C_init_155 {Q : PQ} {h : HP} {s1 : Int} 
    (o1 : 0 ≤ s1 ∧ s1 < 3)
    (o2 : zck 62 = 7)
    (o3 : 62 = 48 + 14 * s1.toNat)
    (k4 : Wp false i_C_init 125 [vr 0, vi 2] [] (hs h 39 s1.toNat 1) Q) :
    Wp false i_C_init 155 [vr 0, vi 1] [vr 62, vi s1, vr 39] h Q := by
  refine r_aastore (n := 3) f_141_155 rfl ⟨Or.inr ⟨rfl, o2⟩, rfl⟩ o1 o3 ?_
  refine r_iinc (v := 1) (w := 2) (ls' := [vr 0, vi 2]) f_141_156 rfl rfl (by decide) rfl ?_
  refine r_goto (t := 125) f_141_159 rfl ?_
  exact k4

theorem gc2_C_init_125 {Q : PQ} {h : HP}  
    (o1 : h 0 11 = 1)
    (o2 : h 1002 0 = 68)
    (k3 : Wp false i_Fl_init 0 [vr 68] [] (hs h 1002 0 69) (fun r h' => Wp false i_C_init 142 [vr 0, vi 2] (r.toList ++ [vr 68, vi 2, vr 38]) h' Q)) :
    Wp false i_C_init 125 [vr 0, vi 2] [] h Q := by
  refine r_iload_n (v := 2) f_141_125 rfl ?_
  refine r_iconst f_141_126 (by decide) ?_
  refine r_br2 (t := 162) f_141_127 rfl cb_ge (fun c => absurd c (by decide)) (fun _ => ?_)
  refine r_aload_n (v := 0) f_141_130 rfl (by decide) ?_
  refine r_getr (q := 38) f_141_131 rfl (by decide) (Or.inr o1) rfl ?_
  refine r_iload_n (v := 2) f_141_134 rfl ?_
  refine r_new (a := 68) f_141_135 rfl o2 ⟨by decide, rfl, by decide⟩ ?_
  refine r_dupr f_141_138 ?_
  exact r_calli (as := [vr 68]) (st' := [vr 68, vi 2, vr 38]) (ls0 := [vr 68]) f_141_139 (by decide) rfl rfl (Nat.le_of_ble_eq_true rfl) (Nat.le_of_ble_eq_true rfl) ⟨_, _, rfl, rfl⟩ rfl k3

theorem gc2_C_init_142 {Q : PQ} {h : HP} {s1 : Int} 
    (o1 : 0 ≤ s1 ∧ s1 < 3)
    (o2 : zck 68 = 3)
    (o3 : 68 = 40 + 14 * s1.toNat)
    (o4 : h 0 12 = 1)
    (o5 : h 1002 0 = 76)
    (k6 : Wp false i_Ta_init 0 [vr 76] [] (hs (hs h 38 s1.toNat 1) 1002 0 77) (fun r h' => Wp false i_C_init 155 [vr 0, vi 2] (r.toList ++ [vr 76, vi 2, vr 39]) h' Q)) :
    Wp false i_C_init 142 [vr 0, vi 2] [vr 68, vi s1, vr 38] h Q := by
  refine r_aastore (n := 3) f_141_142 rfl ⟨Or.inl ⟨rfl, o2⟩, rfl⟩ o1 o3 ?_
  refine r_aload_n (v := 0) f_141_143 rfl (by decide) ?_
  refine r_getr (q := 39) f_141_144 rfl (by decide) (Or.inr (by simp [hs]; exact o4)) rfl ?_
  refine r_iload_n (v := 2) f_141_147 rfl ?_
  refine r_new (a := 76) f_141_148 rfl o5 ⟨by decide, rfl, by decide⟩ ?_
  refine r_dupr f_141_151 ?_
  exact r_calli (as := [vr 76]) (st' := [vr 76, vi 2, vr 39]) (ls0 := [vr 76]) f_141_152 (by decide) rfl rfl (Nat.le_of_ble_eq_true rfl) (Nat.le_of_ble_eq_true rfl) ⟨_, _, rfl, rfl⟩ rfl k6

theorem gc2_C_init_155 {Q : PQ} {h : HP} {s1 : Int} 
    (o1 : 0 ≤ s1 ∧ s1 < 3)
    (o2 : zck 76 = 7)
    (o3 : 76 = 48 + 14 * s1.toNat)
    (k4 : Wp false i_C_init 125 [vr 0, vi 3] [] (hs h 39 s1.toNat 1) Q) :
    Wp false i_C_init 155 [vr 0, vi 2] [vr 76, vi s1, vr 39] h Q := by
  refine r_aastore (n := 3) f_141_155 rfl ⟨Or.inr ⟨rfl, o2⟩, rfl⟩ o1 o3 ?_
  refine r_iinc (v := 2) (w := 3) (ls' := [vr 0, vi 3]) f_141_156 rfl rfl (by decide) rfl ?_
  refine r_goto (t := 125) f_141_159 rfl ?_
  exact k4

theorem gc3_C_init_125 {Q : PQ} {h : HP}  
    (o1 : h 1002 0 = 82)
    (k2 : Wp false i_Is_init 0 [vr 82] [] (hs h 1002 0 83) (fun r h' => Wp false i_C_init 170 [vr 0, vi 3] (r.toList ++ [vr 82, vr 0]) h' Q)) :
    Wp false i_C_init 125 [vr 0, vi 3] [] h Q := by
  refine r_iload_n (v := 3) f_141_125 rfl ?_
  refine r_iconst f_141_126 (by decide) ?_
  refine r_br2 (t := 162) f_141_127 rfl cb_ge (fun _ => ?_) (fun c => absurd (by decide) c)
  refine r_aload_n (v := 0) f_141_162 rfl (by decide) ?_
  refine r_new (a := 82) f_141_163 rfl o1 ⟨by decide, rfl, by decide⟩ ?_
  refine r_dupr f_141_166 ?_
  exact r_calli (as := [vr 82]) (st' := [vr 82, vr 0]) (ls0 := [vr 82]) f_141_167 (by decide) rfl rfl (Nat.le_of_ble_eq_true rfl) (Nat.le_of_ble_eq_true rfl) ⟨_, _, rfl, rfl⟩ rfl k2

theorem gc_C_init_170 {Q : PQ} {h : HP}  
    (o1 : h 1002 0 = 89)
    (k2 : Wp false i_Ba_init 0 [vr 89] [] (hs (hs h 0 14 1) 1002 0 90) (fun r h' => Wp false i_C_init 181 [vr 0, vi 3] (r.toList ++ [vr 89, vr 0]) h' Q)) :
    Wp false i_C_init 170 [vr 0, vi 3] [vr 82, vr 0] h Q := by
  refine r_putr f_141_170 rfl (by decide) rfl (by decide) rfl ?_
  refine r_aload_n (v := 0) f_141_173 rfl (by decide) ?_
  refine r_new (a := 89) f_141_174 rfl o1 ⟨by decide, rfl, by decide⟩ ?_
  refine r_dupr f_141_177 ?_
  exact r_calli (as := [vr 89]) (st' := [vr 89, vr 0]) (ls0 := [vr 89]) f_141_178 (by decide) rfl rfl (Nat.le_of_ble_eq_true rfl) (Nat.le_of_ble_eq_true rfl) ⟨_, _, rfl, rfl⟩ rfl k2

theorem gc_C_init_181 {Q : PQ} {h : HP}  
    (o1 : h 1002 0 = 92)
    (k2 : Wp false i_Bo_init 0 [vr 92] [] (hs (hs h 0 15 1) 1002 0 93) (fun r h' => Wp false i_C_init 192 [vr 0, vi 3] (r.toList ++ [vr 92, vr 0]) h' Q)) :
    Wp false i_C_init 181 [vr 0, vi 3] [vr 89, vr 0] h Q := by
  refine r_putr f_141_181 rfl (by decide) rfl (by decide) rfl ?_
  refine r_aload_n (v := 0) f_141_184 rfl (by decide) ?_
  refine r_new (a := 92) f_141_185 rfl o1 ⟨by decide, rfl, by decide⟩ ?_
  refine r_dupr f_141_188 ?_
  exact r_calli (as := [vr 92]) (st' := [vr 92, vr 0]) (ls0 := [vr 92]) f_141_189 (by decide) rfl rfl (Nat.le_of_ble_eq_true rfl) (Nat.le_of_ble_eq_true rfl) ⟨_, _, rfl, rfl⟩ rfl k2

theorem gc_C_init_192 {Q : PQ} {h : HP}  
    (o1 : h 1002 0 = 97)
    (k2 : Wp false i_En_init 0 [vr 97] [] (hs (hs h 0 16 1) 1002 0 98) (fun r h' => Wp false i_C_init 203 [vr 0, vi 3] (r.toList ++ [vr 97, vr 0]) h' Q)) :
    Wp false i_C_init 192 [vr 0, vi 3] [vr 92, vr 0] h Q := by
  refine r_putr f_141_192 rfl (by decide) rfl (by decide) rfl ?_
  refine r_aload_n (v := 0) f_141_195 rfl (by decide) ?_
  refine r_new (a := 97) f_141_196 rfl o1 ⟨by decide, rfl, by decide⟩ ?_
  refine r_dupr f_141_199 ?_
  exact r_calli (as := [vr 97]) (st' := [vr 97, vr 0]) (ls0 := [vr 97]) f_141_200 (by decide) rfl rfl (Nat.le_of_ble_eq_true rfl) (Nat.le_of_ble_eq_true rfl) ⟨_, _, rfl, rfl⟩ rfl k2

theorem gc_C_init_203 {Q : PQ} {h : HP}  
    (o1 : h 1002 0 = 99)
    (k2 : Wp false i_Pl_init 0 [vr 99] [] (hs (hs h 0 17 1) 1002 0 100) (fun r h' => Wp false i_C_init 214 [vr 0, vi 3] (r.toList ++ [vr 99, vr 0]) h' Q)) :
    Wp false i_C_init 203 [vr 0, vi 3] [vr 97, vr 0] h Q := by
  refine r_putr f_141_203 rfl (by decide) rfl (by decide) rfl ?_
  refine r_aload_n (v := 0) f_141_206 rfl (by decide) ?_
  refine r_new (a := 99) f_141_207 rfl o1 ⟨by decide, rfl, by decide⟩ ?_
  refine r_dupr f_141_210 ?_
  exact r_calli (as := [vr 99]) (st' := [vr 99, vr 0]) (ls0 := [vr 99]) f_141_211 (by decide) rfl rfl (Nat.le_of_ble_eq_true rfl) (Nat.le_of_ble_eq_true rfl) ⟨_, _, rfl, rfl⟩ rfl k2

theorem gc_C_init_214 {Q : PQ} {h : HP}  
    (k1 : Q none (hs h 0 18 1)) :
    Wp false i_C_init 214 [vr 0, vi 3] [vr 99, vr 0] h Q := by
  refine r_putr f_141_214 rfl (by decide) rfl (by decide) rfl ?_
  exact r_retv f_141_217 rfl k1

theorem gc_M_plain_0 {Q : PQ} {h : HP} {x1 : Int} 
    (k1 : Wp false i_M_plain 2 [vr 103, vi x1, vi 0] [] h Q) :
    Wp false i_M_plain 0 [vr 103, vi x1, vr 9999] [] h Q := by
  refine r_iconst f_222_0 (by decide) ?_
  refine r_istore_n (ls' := [vr 103, vi x1, vi 0]) f_222_1 (Nat.le_of_ble_eq_true rfl) rfl ?_
  exact k1

theorem gc_M_plain_2 {Q : PQ} {h : HP} {x1 : Int} {x2 : Int} 
    (o1 : 500 ≤ x2 → h 103 0 = 1)
    (o2 : 500 ≤ x2 → -2147483648 ≤ x1 + 3 ∧ x1 + 3 ≤ 2147483647)
    (o3 : 500 ≤ x2 → 0 ≤ x1 + 3 ∧ x1 + 3 < 3000)
    (o4 : 500 ≤ x2 → -2147483648 ≤ x1 + 7 ∧ x1 + 7 ≤ 2147483647)
    (o5 : 500 ≤ x2 → 0 ≤ x1 + 7 ∧ x1 + 7 < 3000)
    (k6 : 500 ≤ x2 → Q none (hs (hs h 104 (x1 + 3).toNat 9) 104 (x1 + 7).toNat (-1)))
    (o7 : ¬ 500 ≤ x2 → h 103 0 = 1)
    (o8 : ¬ 500 ≤ x2 → -2147483648 ≤ x1 + x2 ∧ x1 + x2 ≤ 2147483647)
    (o9 : ¬ 500 ≤ x2 → 0 ≤ x1 + x2 ∧ x1 + x2 < 3000)
    (o10 : ¬ 500 ≤ x2 → -2147483648 ≤ x2 + 1 ∧ x2 + 1 ≤ 2147483647)
    (k11 : ¬ 500 ≤ x2 → Wp false i_M_plain 2 [vr 103, vi x1, vi (x2 + 1)] [] (hs h 104 (x1 + x2).toNat 0) Q) :
    Wp false i_M_plain 2 [vr 103, vi x1, vi x2] [] h Q := by
  refine r_iload_n (v := x2) f_222_2 rfl ?_
  refine r_sipush f_222_3 (by decide) ?_
  refine r_br2 (t := 24) f_222_6 rfl cb_ge (fun c1 => ?_) (fun c1 => ?_)
  · refine r_aload_n (v := 103) f_222_24 rfl (by decide) ?_
    refine r_getr (q := 104) f_222_25 rfl (by decide) (Or.inr (o1 c1)) rfl ?_
    refine r_iload_n (v := x1) f_222_28 rfl ?_
    refine r_iconst f_222_29 (by decide) ?_
    refine r_iadd (u := x1 + 3) f_222_30 rfl (o2 c1) ?_
    refine r_bipush f_222_31 (by decide) ?_
    refine r_iastore (n := 3000) f_222_33 ⟨rfl, rfl⟩ (o3 c1) ?_
    refine r_aload_n (v := 103) f_222_34 rfl (by decide) ?_
    refine r_getr (q := 104) f_222_35 rfl (by decide) (Or.inr (by simp [hs]; exact (o1 c1))) rfl ?_
    refine r_iload_n (v := x1) f_222_38 rfl ?_
    refine r_bipush f_222_39 (by decide) ?_
    refine r_iadd (u := x1 + 7) f_222_41 rfl (o4 c1) ?_
    refine r_iconst f_222_42 (by decide) ?_
    refine r_iastore (n := 3000) f_222_43 ⟨rfl, rfl⟩ (o5 c1) ?_
    exact r_retv f_222_44 rfl (k6 c1)
  · refine r_aload_n (v := 103) f_222_9 rfl (by decide) ?_
    refine r_getr (q := 104) f_222_10 rfl (by decide) (Or.inr (o7 c1)) rfl ?_
    refine r_iload_n (v := x1) f_222_13 rfl ?_
    refine r_iload_n (v := x2) f_222_14 rfl ?_
    refine r_iadd (u := x1 + x2) f_222_15 rfl (o8 c1) ?_
    refine r_iconst f_222_16 (by decide) ?_
    refine r_iastore (n := 3000) f_222_17 ⟨rfl, rfl⟩ (o9 c1) ?_
    refine r_iinc (v := x2) (w := x2 + 1) (ls' := [vr 103, vi x1, vi (x2 + 1)]) f_222_18 rfl rfl (o10 c1) rfl ?_
    refine r_goto (t := 2) f_222_21 rfl ?_
    exact (k11 c1)

theorem gc_Ar_fillI_0 {Q : PQ} {h : HP} {x1 : Int} {a0 : Nat} {n0 : Nat} (h_a0 : zck a0 = 20 ∧ zcn a0 = n0)
    (o1 : a0 ≠ 9999)
    (k2 : Wp false i_Ar_fillI 5 [vr a0, vi x1, vi 0, vi (n0 : Int)] [] h Q) :
    Wp false i_Ar_fillI 0 [vr a0, vi x1, vr 9999, vr 9999] [] h Q := by
  refine r_iconst f_379_0 (by decide) ?_
  refine r_istore_n (ls' := [vr a0, vi x1, vi 0, vr 9999]) f_379_1 (Nat.le_of_ble_eq_true rfl) rfl ?_
  refine r_aload_n (v := a0) f_379_2 rfl o1 ?_
  refine r_alen (v := (n0 : Int)) f_379_3 (Or.inl h_a0.1) (by rw [h_a0.2]) ?_
  refine r_istore_n (ls' := [vr a0, vi x1, vi 0, vi (n0 : Int)]) f_379_4 (Nat.le_of_ble_eq_true rfl) rfl ?_
  exact k2

theorem gc_Ar_fillI_5 {Q : PQ} {h : HP} {x1 : Int} {x2 : Int} {x3 : Int} {a0 : Nat} {n0 : Nat} (h_a0 : zck a0 = 20 ∧ zcn a0 = n0)
    (k1 : x3 ≤ x2 → Q none h)
    (o2 : ¬ x3 ≤ x2 → a0 ≠ 9999)
    (o3 : ¬ x3 ≤ x2 → 0 ≤ x2 ∧ x2 < (n0 : Int))
    (o4 : ¬ x3 ≤ x2 → -2147483648 ≤ x2 + 1 ∧ x2 + 1 ≤ 2147483647)
    (k5 : ¬ x3 ≤ x2 → Wp false i_Ar_fillI 5 [vr a0, vi x1, vi (x2 + 1), vi x3] [] (hs h a0 x2.toNat x1) Q) :
    Wp false i_Ar_fillI 5 [vr a0, vi x1, vi x2, vi x3] [] h Q := by
  refine r_iload_n (v := x2) f_379_5 rfl ?_
  refine r_iload_n (v := x3) f_379_6 rfl ?_
  refine r_br2 (t := 20) f_379_7 rfl cb_ge (fun c1 => ?_) (fun c1 => ?_)
  · exact r_retv f_379_20 rfl (k1 c1)
  · refine r_aload_n (v := a0) f_379_10 rfl (o2 c1) ?_
    refine r_iload_n (v := x2) f_379_11 rfl ?_
    refine r_iload_n (v := x1) f_379_12 rfl ?_
    refine r_iastore (n := n0) f_379_13 h_a0 (o3 c1) ?_
    refine r_iinc (v := x2) (w := x2 + 1) (ls' := [vr a0, vi x1, vi (x2 + 1), vi x3]) f_379_14 rfl rfl (o4 c1) rfl ?_
    refine r_goto (t := 5) f_379_17 rfl ?_
    exact (k5 c1)

theorem gc_L_law_0 {Q : PQ} {h : HP}  
    (o1 : h 1002 0 = 0)
    (k2 : Wp false i_C_init 0 [vr 0, vr 9999] [] (hs h 1002 0 1) (fun r h' => Wp false i_L_law 7 [vr 1000, vr 9999, vr 9999, vr 9999] (r.toList ++ [vr 0]) h' Q)) :
    Wp false i_L_law 0 [vr 1000, vr 9999, vr 9999, vr 9999] [] h Q := by
  refine r_new (a := 0) f_380_0 rfl o1 ⟨by decide, rfl, by decide⟩ ?_
  refine r_dupr f_380_3 ?_
  exact r_calli (as := [vr 0]) (st' := [vr 0]) (ls0 := [vr 0, vr 9999]) f_380_4 (by decide) rfl rfl (Nat.le_of_ble_eq_true rfl) (Nat.le_of_ble_eq_true rfl) ⟨_, _, rfl, rfl⟩ rfl k2

theorem gc_L_law_7 {Q : PQ} {h : HP}  
    (o1 : h 1002 0 = 103)
    (k2 : Wp false i_M_init 0 [vr 103] [] (hs h 1002 0 104) (fun r h' => Wp false i_L_law 15 [vr 1000, vr 0, vr 9999, vr 9999] (r.toList ++ [vr 103]) h' Q)) :
    Wp false i_L_law 7 [vr 1000, vr 9999, vr 9999, vr 9999] [vr 0] h Q := by
  refine r_astore_n (ls' := [vr 1000, vr 0, vr 9999, vr 9999]) f_380_7 (Nat.le_of_ble_eq_true rfl) rfl ?_
  refine r_new (a := 103) f_380_8 rfl o1 ⟨by decide, rfl, by decide⟩ ?_
  refine r_dupr f_380_11 ?_
  exact r_calli (as := [vr 103]) (st' := [vr 103]) (ls0 := [vr 103]) f_380_12 (by decide) rfl rfl (Nat.le_of_ble_eq_true rfl) (Nat.le_of_ble_eq_true rfl) ⟨_, _, rfl, rfl⟩ rfl k2

theorem gc_L_law_15 {Q : PQ} {h : HP}  
    (k1 : Wp false i_L_law 18 [vr 1000, vr 0, vr 103, vi 0] [] h Q) :
    Wp false i_L_law 15 [vr 1000, vr 0, vr 9999, vr 9999] [vr 103] h Q := by
  refine r_astore_n (ls' := [vr 1000, vr 0, vr 103, vr 9999]) f_380_15 (Nat.le_of_ble_eq_true rfl) rfl ?_
  refine r_iconst f_380_16 (by decide) ?_
  refine r_istore_n (ls' := [vr 1000, vr 0, vr 103, vi 0]) f_380_17 (Nat.le_of_ble_eq_true rfl) rfl ?_
  exact k1
