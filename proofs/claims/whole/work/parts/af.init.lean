def XB (g : HP) : HP := hs (hs (hs (hs (hs (hs (hs (hs (hs (hs (hs (hs (hs (hs (hs (hs (hs (hs (hs (hs (hs (hs (hs (hs (hs (hs (hs (hs (hs (hs (hs (hs (hs (hs (hs (hs (hs (hs (hs (hs (hs (hs (hs (hs (hs (hs (hs (hs (hs (hs (hs (hs (hs (hs (hs (hs (hs (hs (hs (hs (hs (hs (hs (hs (hs (hs (hs (hs (hs (hs (hs (hs (hs (hs (hs (hs (hs (hs (hs (hs (hs (hs (hs (hs (hs (hs (hs (hs (hs (hs (hs (hs (hs (hs (hs (hs (hs (hs (hs (hs (hs (hs (hs (hs (hs (hs (hs (hs (hs (hs (hs (hs (hs (hs (hs (hs (hs (hs (hs (hs (hs (hs (hs (hs (hs (hs (hs (hs (hs (hs (hs (hs (hs (hs (hs (hs (hs (hs (hs (hs (hs (hs (hs (hs (hs (hs (hs (hs (hs (hs (hs (hs (hs (hs (hs (hs (hs (hs (hs (hs (hs (hs (hs (hs (hs (hs (hs (hs (hs (hs (hs (hs (hs (hs (hs (hs (hs (hs (hs (hs (hs (hs (hs (hs (hs (hs (hs (hs (hs (hs (hs (hs (hs (hs (hs (hs (hs (hs (hs (hs (hs (hs (hs (hs (hs (hs (hs (hs (hs (hs (hs (hs (hs (hs (hs (hs (hs (hs (hs (hs (hs (hs (hs (hs (hs (hs (hs (hs (hs (hs (hs (hs (hs (hs (hs (hs (hs (hs (hs (hs (hs (hs (hs (hs (hs (hs (hs (hs (hs (hs (hs (hs (hs g 0 4 1) 1002 0 9) 8 0 0) 8 1 0) 0 5 1) 1002 0 10) 9 0 0) 9 1 (-1)) 0 6 1) 1002 0 11) 10 0 0) 10 1 0) 10 2 9) 10 3 0) 10 4 0) 1002 0 12) 10 5 1) 1002 0 13) 10 6 1) 1002 0 14) 10 7 1) 1002 0 15) 10 8 1) 1002 0 16) 10 9 1) 1002 0 17) 10 10 1) 1002 0 18) 10 11 1) 10 12 0) 0 7 1) 1002 0 19) 18 0 0) 18 1 0) 18 2 9) 18 3 0) 18 4 0) 1002 0 20) 18 5 1) 1002 0 21) 18 6 1) 1002 0 22) 18 7 1) 1002 0 23) 18 8 1) 1002 0 24) 18 9 1) 1002 0 25) 18 10 1) 1002 0 26) 18 11 1) 18 12 0) 0 8 1) 1002 0 27) 26 0 0) 26 1 0) 26 2 0) 1002 0 28) 26 3 1) 1002 0 29) 26 4 1) 1002 0 30) 26 5 1) 1002 0 31) 26 6 1) 1002 0 32) 26 7 1) 0 9 1) 1002 0 33) 32 0 0) 32 1 0) 32 2 0) 1002 0 34) 32 3 1) 1002 0 35) 32 4 1) 1002 0 36) 32 5 1) 1002 0 37) 32 6 1) 1002 0 38) 32 7 1) 0 10 1) 1002 0 39) 0 11 1) 1002 0 40) 0 12 1) 1002 0 41) 40 0 0) 40 1 0) 40 2 9) 40 3 0) 40 4 0) 1002 0 42) 40 5 1) 1002 0 43) 40 6 1) 1002 0 44) 40 7 1) 1002 0 45) 40 8 1) 1002 0 46) 40 9 1) 1002 0 47) 40 10 1) 1002 0 48) 40 11 1) 40 12 0) 38 (0 : Int).toNat 1) 1002 0 49) 48 0 0) 48 1 0) 48 2 0) 1002 0 50) 48 3 1) 1002 0 51) 48 4 1) 1002 0 52) 48 5 1) 1002 0 53) 48 6 1) 1002 0 54) 48 7 1) 39 (0 : Int).toNat 1) 1002 0 55) 54 0 0) 54 1 0) 54 2 9) 54 3 0) 54 4 0) 1002 0 56) 54 5 1) 1002 0 57) 54 6 1) 1002 0 58) 54 7 1) 1002 0 59) 54 8 1) 1002 0 60) 54 9 1) 1002 0 61) 54 10 1) 1002 0 62) 54 11 1) 54 12 0) 38 (1 : Int).toNat 1) 1002 0 63) 62 0 0) 62 1 0) 62 2 0) 1002 0 64) 62 3 1) 1002 0 65) 62 4 1) 1002 0 66) 62 5 1) 1002 0 67) 62 6 1) 1002 0 68) 62 7 1) 39 (1 : Int).toNat 1) 1002 0 69) 68 0 0) 68 1 0) 68 2 9) 68 3 0) 68 4 0) 1002 0 70) 68 5 1) 1002 0 71) 68 6 1) 1002 0 72) 68 7 1) 1002 0 73) 68 8 1) 1002 0 74) 68 9 1) 1002 0 75) 68 10 1) 1002 0 76) 68 11 1) 68 12 0) 38 (2 : Int).toNat 1) 1002 0 77) 76 0 0) 76 1 0) 76 2 0) 1002 0 78) 76 3 1) 1002 0 79) 76 4 1) 1002 0 80) 76 5 1) 1002 0 81) 76 6 1) 1002 0 82) 76 7 1) 39 (2 : Int).toNat 1) 1002 0 83) 1002 0 84) 82 0 1) 1002 0 85) 82 1 1) 1002 0 86) 82 2 1) 1002 0 87) 82 3 1) 82 4 0) 1002 0 88) 82 5 1) 82 6 0) 1002 0 89) 82 7 1) 82 8 0) 82 9 (-1)) 82 10 0) 0 14 1) 1002 0 90) 1002 0 91) 89 0 1) 1002 0 92) 89 1 1) 0 15 1) 1002 0 93) 1002 0 94) 92 0 1) 1002 0 95) 92 1 1) 1002 0 96) 92 2 1) 1002 0 97) 92 3 1) 0 16 1) 1002 0 98) 1002 0 99) 97 0 1) 97 1 0) 97 2 0) 0 17 1) 1002 0 100) 99 0 0) 99 1 0) 99 2 0) 99 3 0) 99 4 0) 1002 0 101) 99 5 1) 1002 0 102) 99 6 1) 99 7 0) 1002 0 103) 99 8 1) 0 18 1
theorem c_C_38 {Q : PQ} {g : HP} (e : g 1002 0 = 8) (k : Q none (XB g)) : Wp false i_C_init 38 [vr 0, vr 9999] [vr 5, vr 0] g Q := by
  refine gc_C_init_38 e ?_
  refine gc_Rr_init_0  ?_
  refine gc_C_init_49 rfl ?_
  refine gc_Tr_init_0  ?_
  refine gc_C_init_60 rfl ?_
  refine gc10_Fl_init_0 rfl ?_
  refine gc_C_init_71 rfl ?_
  refine gc18_Fl_init_0 rfl ?_
  refine gc_C_init_82 rfl ?_
  refine gc26_Ta_init_0 rfl ?_
  refine gc_C_init_93 rfl ?_
  refine gc32_Ta_init_0 rfl ?_
  refine gc_C_init_104 rfl ?_
  refine gc0_C_init_125 rfl rfl ?_
  refine gc40_Fl_init_0 rfl ?_
  refine gc0_C_init_142 (by decide) rfl rfl rfl rfl ?_
  refine gc48_Ta_init_0 rfl ?_
  refine gc0_C_init_155 (by decide) rfl rfl ?_
  refine gc1_C_init_125 rfl rfl ?_
  refine gc54_Fl_init_0 rfl ?_
  refine gc1_C_init_142 (by decide) rfl rfl rfl rfl ?_
  refine gc62_Ta_init_0 rfl ?_
  refine gc1_C_init_155 (by decide) rfl rfl ?_
  refine gc2_C_init_125 rfl rfl ?_
  refine gc68_Fl_init_0 rfl ?_
  refine gc2_C_init_142 (by decide) rfl rfl rfl rfl ?_
  refine gc76_Ta_init_0 rfl ?_
  refine gc2_C_init_155 (by decide) rfl rfl ?_
  refine gc3_C_init_125 rfl ?_
  refine gc_Is_init_0 rfl ?_
  refine gc_C_init_170 rfl ?_
  refine gc_Ba_init_0 rfl ?_
  refine gc_C_init_181 rfl ?_
  refine gc_Bo_init_0 rfl ?_
  refine gc_C_init_192 rfl ?_
  refine gc_En_init_0 rfl ?_
  refine gc_C_init_203 rfl ?_
  refine gc_Pl_init_0 rfl ?_
  refine gc_C_init_214  ?_
  exact k

def XA (h : HP) : HP := hs (hs (hs (hs (hs (hs (hs (hs (hs (hs (hs (hs (hs (hs (hs (hs (hs (hs (hs (hs (hs (hs (hs (hs (hs (hs (hs (hs (hs (hs (hs (hs h 1002 0 1) 0 0 0) 0 1 0) 0 2 1) 1002 0 2) 1002 0 3) 1 0 1) 1002 0 4) 1 1 1) 1002 0 5) 1 2 1) 3 (0 : Int).toNat (-1)) 3 ((0 + 1) : Int).toNat (-1)) 3 ((0 + 1 + 1) : Int).toNat (-1)) 3 ((0 + 1 + 1 + 1) : Int).toNat (-1)) 0 3 1) 1002 0 6) 1002 0 7) 5 0 1) 1002 0 8) 5 1 1) 5 2 0) 5 3 (-1)) 5 4 (-1)) 5 5 0) 5 6 (-1)) 5 7 0) 5 8 0) 5 9 0) 5 10 0) 5 11 0) 5 12 0
theorem c_L_0 {Q : PQ} {h : HP} (e : h 1002 0 = 0) (k : Wp false i_To_init 78 [vr 5, vi 0, vr 9999, vr 9999] [] (XA h) (fun r h' => Wp false i_C_init 38 [vr 0, vr 9999] (r.toList ++ [vr 5, vr 0]) h' (fun r h' => Wp false i_L_law 7 [vr 1000, vr 9999, vr 9999, vr 9999] (r.toList ++ [vr 0]) h' Q))) : Wp false i_L_law 0 [vr 1000, vr 9999, vr 9999, vr 9999] [] h Q := by
  refine gc_L_law_0 e ?_
  refine gc_C_init_0 rfl ?_
  refine gc_Ty_init_0 rfl ?_
  refine gc_Ar_fillI_0 (n0 := 4) ⟨rfl, rfl⟩ (by decide) ?_
  refine gc_Ar_fillI_5 (n0 := 4) ⟨rfl, rfl⟩ (fun c => absurd c (by decide)) (fun _ => by decide) (fun _ => by decide) (fun _ => by decide) (fun _ => ?_)
  refine gc_Ar_fillI_5 (n0 := 4) ⟨rfl, rfl⟩ (fun c => absurd c (by decide)) (fun _ => by decide) (fun _ => by decide) (fun _ => by decide) (fun _ => ?_)
  refine gc_Ar_fillI_5 (n0 := 4) ⟨rfl, rfl⟩ (fun c => absurd c (by decide)) (fun _ => by decide) (fun _ => by decide) (fun _ => by decide) (fun _ => ?_)
  refine gc_Ar_fillI_5 (n0 := 4) ⟨rfl, rfl⟩ (fun c => absurd c (by decide)) (fun _ => by decide) (fun _ => by decide) (fun _ => by decide) (fun _ => ?_)
  refine gc_Ar_fillI_5 (n0 := 4) ⟨rfl, rfl⟩ (fun _ => ?_) (fun c => absurd (by decide) c) (fun c => absurd (by decide) c) (fun c => absurd (by decide) c) (fun c => absurd (by decide) c)
  refine gc_Ty_init_35 ?_
  refine gc_C_init_27 rfl ?_
  refine gc_To_init_0 rfl ?_
  exact k

def XC (g : HP) : HP := hs (hs (hs (hs (hs (hs (hs (hs (hs (hs (hs (hs (hs (hs (hs (hs (hs (hs (hs (hs (hs (hs (hs (hs (hs (hs (hs (hs (hs (hs (hs (hs (hs (hs (hs (hs (hs (hs (hs (hs (hs (hs (hs (hs (hs (hs g 1002 0 104) 1002 0 105) 103 0 1) 1002 0 106) 103 1 1) 103 4 1) 1002 0 107) 103 5 1) 1002 0 108) 107 0 (-1)) 107 1 (-1)) 107 2 (-1)) 107 3 (-1)) 103 6 1) 1002 0 109) 103 7 1) 1002 0 110) 103 8 1) 1002 0 111) 103 9 1) 103 16 (-1)) 103 17 (-1)) 1002 0 112) 103 21 1) 1002 0 113) 103 24 1) 1002 0 114) 103 25 1) 1002 0 115) 103 26 1) 1002 0 116) 103 27 1) 1002 0 117) 103 28 1) 1002 0 118) 103 29 1) 1002 0 119) 103 30 1) 1002 0 120) 103 31 1) 1002 0 121) 103 35 1) 1002 0 122) 103 36 1) 1002 0 123) 103 37 1
theorem c_L_7 {Q : PQ} {g : HP} (e : g 1002 0 = 103) (k : Wp false i_M_plain 0 [vr 103, vi 0, vr 9999] [] (XC g) (fun r h' => Wp false i_M_init 194 [vr 103] (r.toList ++ []) h' (fun r h' => Wp false i_L_law 15 [vr 1000, vr 0, vr 9999, vr 9999] (r.toList ++ [vr 103]) h' Q))) : Wp false i_L_law 7 [vr 1000, vr 9999, vr 9999, vr 9999] [vr 0] g Q := by
  refine gc_L_law_7 e ?_
  refine gc_M_init_0 rfl ?_
  exact k

/-! the two loops -/
def Zc (i : Nat) : Int := (zstr 2000).getD i 0
def kp (w : Nat) : Nat → Int
  | 0 => 0
  | i + 1 => if i / 6 = w ∧ ¬ Zc i = 32 then kp w i * 32 + ((Zc i - 97) + 1) else kp w i
theorem kp_end : ∀ w, w < 22 → kp w 132 = kwC.getD w 0 := by decide +kernel
theorem kp_rg : ∀ w, w < 22 → ∀ i, i < 133 → 0 ≤ kp w i ∧ kp w i ≤ 1099511627776 := by decide +kernel
theorem Zc_rg : ∀ i, i < 132 → Zc i = 32 ∨ (97 ≤ Zc i ∧ Zc i ≤ 122) := by decide +kernel
theorem c_To_78 {Q : PQ} {X : HP} (x51 : X 5 1 = 1) (x7 : ∀ w, X 7 w = 0) (k : ∀ g, (∀ k, k ≠ 7 → g k = X k) → (∀ w, w < 22 → g 7 w = kwC.getD w 0) → Q none g) : Wp false i_To_init 78 [vr 5, vi 0, vr 9999, vr 9999] [] X Q := by
  have lp : ∀ (d i : Nat) (g : HP) (j2 j3 : AV), i + d = 132 → (∀ k, k ≠ 7 → g k = X k) → (∀ w, w < 22 → g 7 w = kp w i) → Wp false i_To_init 78 [vr 5, vi (i : Int), j2, j3] [] g Q := by
    intro d
    induction d with
    | zero =>
      intro i g j2 j3 hi f v
      have e : i = 132 := by omega
      subst e
      have q := k g f (fun w hw => by rw [v w hw]; exact kp_end w hw)
      exact gc_To_init_78 (fun _ => q) (fun c => absurd (by decide) c) (fun c => absurd (by decide) c) (fun c => absurd (by decide) c) (fun c => absurd (by decide) c) (fun c => absurd (by decide) c) (fun c => absurd (by decide) c) (fun c => absurd (by decide) c) (fun c => absurd (by decide) c) (fun c => absurd (by decide) c) (fun c => absurd (by decide) c) (fun c => absurd (by decide) c) (fun c => absurd (by decide) c) (fun c => absurd (by decide) c)
    | succ d ih =>
      intro i g j2 j3 hi f v
      have t6 : ((i : Int) / 6).toNat = i / 6 := by omega
      have zr := Zc_rg i (by omega)
      have ez : (zstr 2000).getD ((i : Int)).toNat 0 = Zc i := by rw [Int.toNat_natCast]; rfl
      have vr6 := kp_rg (i / 6) (by omega) i (by omega)
      have e7 : g 7 ((i : Int) / 6).toNat = kp (i / 6) i := by rw [t6]; exact v _ (by omega)
      have g51 : g 5 1 = 1 := by rw [f 5 (by decide)]; exact x51
      refine gc_To_init_78 (fun c => by omega) (fun _ c => by omega) (fun _ _ => by omega) (fun _ _ _ => by omega) (fun _ _ c => ?_) (fun _ _ _ => by omega) (fun _ _ _ => g51) (fun _ _ _ => by omega) (fun _ _ _ => by rw [e7]; omega) (fun _ _ _ => by rw [ez]; omega) (fun _ _ _ => by rw [ez]; omega) (fun _ _ _ => by rw [e7, ez]; omega) (fun _ _ _ => by omega) (fun _ _ c => ?_)
      · rw [ez] at c
        refine ih (i + 1) g _ _ (by omega) f (fun w hw => ?_)
        rw [v w hw, kp, if_neg (fun q => q.2 c)]
      · rw [ez] at c
        rw [e7, t6, ez]
        refine ih (i + 1) _ _ _ (by omega) (fun k hk => by rw [hs_ne hk]; exact f k hk) (fun w hw => ?_)
        by_cases z : w = i / 6
        · rw [z, hs_s, kp, if_pos ⟨rfl, c⟩]
        · rw [hs_o (Or.inr z), v w hw, kp, if_neg (fun q => z q.1.symm)]
  refine lp 132 0 X _ _ rfl (fun _ _ => rfl) (fun w hw => ?_)
  rw [x7]; rfl
theorem c_plain0 {Q : PQ} {h : HP} (e : h 103 0 = 1) (k : Q none (hs (hs (wr h 104 0 500 (fun _ => 0)) 104 3 9) 104 7 (-1))) : Wp false i_M_plain 0 [vr 103, vi 0, vr 9999] [] h Q := by
  have lp : ∀ (d i : Nat), i + d = 500 → Wp false i_M_plain 2 [vr 103, vi 0, vi (i : Int)] [] (wr h 104 0 i (fun _ => 0)) Q := by
    intro d
    induction d with
    | zero =>
      intro i hi
      have : i = 500 := by omega
      subst this
      have e' : (wr h 104 0 500 (fun _ => 0)) 103 0 = 1 := by rw [wr_ne (by decide)]; exact e
      exact gc_M_plain_2 (fun _ => e') (fun _ => by decide) (fun _ => by decide) (fun _ => by decide) (fun _ => by decide) (fun _ => k) (fun c => absurd (by decide) c) (fun c => absurd (by decide) c) (fun c => absurd (by decide) c) (fun c => absurd (by decide) c) (fun c => absurd (by decide) c)
    | succ d ih =>
      intro i hi
      have e' : (wr h 104 0 i (fun _ => 0)) 103 0 = 1 := by rw [wr_ne (by decide)]; exact e
      refine gc_M_plain_2 (fun c => by omega) (fun c => by omega) (fun c => by omega) (fun c => by omega) (fun c => by omega) (fun c => by omega) (fun _ => e') (fun _ => by omega) (fun _ => by omega) (fun _ => by omega) (fun _ => ?_)
      rw [show (0 + (i : Int)).toNat = i by omega]
      have w := wr_s (h := h) (k := 104) (a := 0) (n := i) (T := fun _ => 0)
      have st := ih (i + 1) (by omega)
      rw [← w, Nat.zero_add] at st
      exact st
  have := lp 500 0 rfl
  rw [wr_0] at this
  exact gc_M_plain_0 this
