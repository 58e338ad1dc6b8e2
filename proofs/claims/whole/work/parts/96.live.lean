theorem BecG_F {h h' : HP} {fd fs : Nat} (b : BecF h h' fd fs) : BecG h h' fd fs := ⟨b.1, b.2.1⟩
noncomputable def fnM (T : HP) (n : Int) (R0 : HP) (l x : Int) : Int := rVal (runP T n 1204 (R0, zS x)).1 l l
theorem A_mean {n : Nat} {h : HP} {x1 x2 x3 : Int} (hR : Rel n h) (hn : n ≤ 600) : Agree n h i_C_mean i_M_mean [vr 0, vi x1, vi x2, vi x3, vr 9999, vr 9999, vr 9999] [vr 103, vi x1, vi x2, vi x3, vr 9999, vr 9999, vr 9999, vr 9999] := by
  have sl := hR.2.2.2.2.2.1
  have W := sl.2.1
  have b0 : bi False = 0 := bi_f (fun q => q)
  have b1 : bi ((1 : Int) = 0) = 0 := bi_f (by decide)
  have b6 : bi ((6 : Int) = 0) = 0 := bi_f (by decide)
  by_cases c : (x1 = 0 ∨ x1 = 1) ∧ (0 ≤ x2 ∧ x2 ≤ 9999) ∧ (1 ≤ x3 ∧ x3 ≤ 20) ∧ x2 + x3 - 1 ≤ 9999
  · obtain ⟨cl, cx, cy, cz⟩ := c
    rcases sl.2.2.2.2.2.2 with ⟨p0, p1, -⟩ | ⟨p0, p1, p2, p3⟩
    · refine ag_act0 (v := vi 0) (st := 6) hR (fun Q k => ?_) (fun g Q e gk k => ?_)
      · rw [← b0] at k
        exact g_C_mean_0 (fun q => absurd cl q) (fun _ q => absurd cx q) (fun _ _ q => absurd cy q) (fun _ _ _ => by omega) (fun _ _ _ => by omega) (fun _ _ _ _ q => absurd p0 q) (fun _ _ _ _ _ => k) (fun _ _ _ q => absurd cz q)
      · rw [← b6] at k
        exact g_M_mean_0 (fun q => absurd cl q) (fun _ q => absurd cx q) (fun _ _ q => absurd cy q) (fun _ _ _ => by omega) (fun _ _ _ => by omega) (fun _ _ _ _ q => absurd (by rw [gk 104 (by decide)]; exact p1) q) (fun _ _ _ _ _ => k) (fun _ _ _ q => absurd cz q)
    · have q3 : 0 ≤ h 11 0 ∧ h 11 0 ≤ 3000 * n := sl.2.2.1
      have q4 : 0 ≤ h 11 1 ∧ h 11 1 ≤ 3000 * n := sl.2.2.2.1
      have q5 := sl.2.2.2.2.1
      obtain ⟨R0, e0⟩ : ∃ R0, R0 = rmC h 10 := ⟨_, rfl⟩
      have d10 := cdim e0.symm
      have e10 : h (10 + 1) = h 11 := rfl
      rw [e10] at d10
      have hb : (0 ≤ R0 0 4 ∧ R0 0 4 ≤ 1900000000) ∧ (0 ≤ R0 0 5 ∧ R0 0 5 ≤ 1900000000) ∧ (0 ≤ R0 0 6 ∧ R0 0 6 ≤ 1900000000) := by omega
      obtain ⟨T, eT⟩ : ∃ T, T = tkC h 26 := ⟨_, rfl⟩
      obtain ⟨m, em⟩ : ∃ m, m = h 26 2 := ⟨_, rfl⟩
      rw [← eT, ← em, ← e0] at p3
      rw [← eT] at p2
      rw [← em] at p1
      rw [← e0] at W
      have okr : ∀ x, 0 ≤ x ∧ x ≤ 65535 → PI T m R0 (runP T m 1204 (R0, zS x)).1 (runP T m 1204 (R0, zS x)).2 := fun x hx =>
        (run_ok p3 1204 (R0, zS x) (PI_0 p3 W hx) (by have := nd_0 (T := T) x; show ndP T (zS x) ≤ _; omega)).2
      obtain ⟨y, ey⟩ : ∃ y : Nat, x3 = y := ⟨x3.toNat, by omega⟩
      have sr : ∀ i : Nat, i ≤ y → 0 ≤ sumF (fun j => fnM T m R0 x1 (x2 + j)) i 0 ∧ sumF (fun j => fnM T m R0 x1 (x2 + j)) i 0 ≤ 990 * i := fun i hi => by
        have := sumF_rng (f := fun j => fnM T m R0 x1 (x2 + (j : Int))) (a := 0) (b := 990) i 0 (fun j _ hj => rVal_rg (okr (x2 + j) (by omega)).2.1 x1 x1)
        omega
      obtain ⟨S, eS⟩ : ∃ S, S = sumF (fun j => fnM T m R0 x1 (x2 + j)) y 0 := ⟨_, rfl⟩
      have Sr := sr y (Nat.le_refl _)
      rw [← eS] at Sr
      -- what the class keeps
      let J : HP → Prop := fun h' => rmC h' 10 = R0 ∧ rmC h' 18 = R0 ∧ (∀ i, i < 10 → h' 13 i = h 13 i) ∧ (∀ i, i < 10 → h' 21 i = h 13 i) ∧ (∀ k, ¬ (10 ≤ k ∧ k < 26) → k ≠ 99 → k ≠ 100 → k ≠ 101 → h' k = h k) ∧ (∀ i, 5 ≤ i → h' 99 i = h 99 i)
      refine ⟨vi 1, fun h1 => ∃ ha, J ha ∧ h1 = hs (hs (hs ha 0 1 (S / gN S x3)) 0 2 (x3 / gN S x3)) 0 0 0, fun h1 e => ?_, fun Q k => ?_, fun h1 Q e k => ?_⟩
      · obtain ⟨ha, C, rfl⟩ := e
        exact ⟨by rw [hs_ne (by decide), hs_ne (by decide), hs_ne (by decide)]; exact C.2.2.2.2.1 1000 (by decide) (by decide) (by decide) (by decide), by rw [hs_ne (by decide), hs_ne (by decide), hs_ne (by decide)]; exact C.2.2.2.2.1 1001 (by decide) (by decide) (by decide) (by decide)⟩
      · refine g_C_mean_0 (fun q => absurd cl q) (fun _ q => absurd cx q) (fun _ _ q => absurd cy q) (fun _ _ _ => by omega) (fun _ _ _ => by omega) (fun _ _ _ _ _ => ?_) (fun _ _ _ _ q => by omega) (fun _ _ _ q => absurd cz q)
        refine c_Fl_become isF_18 isF_10 (by omega) (fun h1 B => g_C_mean_73 ?_)
        have lp : ∀ (d i : Nat) (h2 : HP), i + d = y → J h2 → Wp true i_C_mean 79 [vr 0, vi x1, vi x2, vi x3, vj (sumF (fun j => fnM T m R0 x1 (x2 + j)) i 0), vr 9999, vi (i : Int)] [] h2 Q := by
          intro d
          induction d with
          | zero =>
            intro i h2 e jj
            have ei : i = y := by omega
            subst ei
            rw [← eS]
            refine g_C_mean_79 (fun _ => by omega) (fun _ => by have p : (2 : Int) ^ 40 = 1099511627776 := rfl; omega) (fun _ => ?_) (fun q => by omega) (fun q => by omega)
            rw [bi_t trivial]
            exact k _ ⟨h2, jj, rfl⟩
          | succ d ih =>
            intro i h2 e jj
            obtain ⟨j1, j2, j3, j4, j5, j6⟩ := jj
            have si := sr i (by omega)
            refine g_C_mean_79 (fun q => by omega) (fun q => by omega) (fun q => by omega) (fun _ => by omega) (fun _ => ?_)
            refine c_Pl_run j1 W (T := T) (n := m) (by rw [eT]; exact tkC_congr (fun k k1 k2 => j5 k (by omega) (by omega) (by omega) (by omega))) (by rw [em, j5 26 (by decide) (by decide) (by decide) (by decide)]) p3 (by omega) hb (fun ha C _ => ?_)
            have P := okr (x2 + i) (by omega)
            have vrg := rVal_rg P.2.1 x1 x1
            have e1 : rVal (rmC ha 10) x1 x1 = fnM T m R0 x1 (x2 + i) := by rw [C.1]; rfl
            refine g_C_mean_104 (by rw [C.1]; exact P.2.1) cl (by rw [C.1]; omega) ?_
            rw [e1]
            have a18 : rmC ha 18 = R0 := by
              have f : ∀ k, 18 ≤ k → k < 26 → ha k = h2 k := fun k k1 k2 => C.2.1 k (by omega) (by omega) (by omega) (by omega)
              exact (rmC_congr (fun i => by rw [f 18 (by decide) (by decide)]) (f _ (by decide) (by decide)) (f _ (by decide) (by decide)) (f _ (by decide) (by decide)) (f _ (by decide) (by decide)) (f _ (by decide) (by decide)) (f _ (by decide) (by decide))).trans j2
            refine c_Fl_become isF_10 isF_18 (by omega) (fun hb2 B2 => g_C_mean_129 (by omega) ?_)
            have nx := ih (i + 1) hb2 (by omega) ⟨?_, ?_, fun i hi => ?_, fun i hi => ?_, fun k k1 k2 k3 k4 => ?_, fun i hi => ?_⟩
            · rw [sumF_last] at nx; exact nx
            · exact (rmC_bec (BecG_F B2) (by rw [a18]; exact W)).trans a18
            · have f : ∀ k, 18 ≤ k → k < 26 → hb2 k = ha k := fun k k1 k2 => B2.2.2 k (by omega)
              exact (rmC_congr (fun i => by rw [f 18 (by decide) (by decide)]) (f _ (by decide) (by decide)) (f _ (by decide) (by decide)) (f _ (by decide) (by decide)) (f _ (by decide) (by decide)) (f _ (by decide) (by decide)) (f _ (by decide) (by decide))).trans a18
            · have := B2.2.1 3 i (by decide) (by decide) (by show i < 10; exact hi)
              rw [show (10 + 3 : Nat) = 13 from rfl, show (18 + 3 : Nat) = 21 from rfl] at this
              rw [this, C.2.1 21 (by decide) (by decide) (by decide) (by decide)]; exact j4 i hi
            · rw [B2.2.2 21 (by decide), C.2.1 21 (by decide) (by decide) (by decide) (by decide)]; exact j4 i hi
            · rw [B2.2.2 k (by omega), C.2.1 k (by omega) k2 k3 k4]; exact j5 k k1 k2 k3 k4
            · rw [B2.2.2 99 (by decide), C.2.2.2.2.2.2.2.1 i hi]; exact j6 i hi
        refine lp y 0 h1 (by omega) ⟨?_, ?_, fun i hi => by rw [B.2.2 13 (by decide)], fun i hi => ?_, fun k k1 k2 k3 k4 => B.2.2 k (by omega), fun i hi => by rw [B.2.2 99 (by decide)]⟩
        · rw [e0]; exact rC_fr10 (fun k k1 k2 => B.2.2 k (by omega))
        · rw [e0]; exact rmC_bec (BecG_F B) (by rw [← e0]; exact W)
        · have := B.2.1 3 i (by decide) (by decide) (by show i < 10; exact hi)
          exact this
      · obtain ⟨ha, ⟨j1, j2, j3, j4, j5, j6⟩, rfl⟩ := e
        obtain ⟨g, eg⟩ : ∃ g, g = hs (hs (hs ha 0 1 (S / gN S x3)) 0 2 (x3 / gN S x3)) 0 0 0 := ⟨_, rfl⟩
        rw [← eg]
        have gk : ∀ k, k ≠ 0 → g k = ha k := fun k k1 => by rw [eg, hs_ne k1, hs_ne k1, hs_ne k1]
        have gh : ∀ k, 103 ≤ k → g k = h k := fun k hk => (gk k (by omega)).trans (j5 k (by omega) (by omega) (by omega) (by omega))
        have eR : rmM g 0 = R0 := (rmM_congr (gh 104 (by decide))).trans (by rw [e0]; exact sl.1.symm)
        have e7 : g 104 7 = m := by rw [gh 104 (by decide)]; exact p1.symm
        have eM : tkM g 0 = T := by
          rw [p2]
          exact tkM_congr (by rw [gh 104 (by decide)]) (by show h 104 7 ≤ 60; rw [show h 104 7 = m from p1.symm]; exact p3.2.1) (fun i _ _ => by rw [gh 104 (by decide)])
        refine g_M_mean_0 (fun q => absurd cl q) (fun _ q => absurd cx q) (fun _ _ q => absurd cy q) (fun _ _ _ => by omega) (fun _ _ _ => by omega) (fun _ _ _ _ _ => ?_) (fun _ _ _ _ q => by have := p3.1; omega) (fun _ _ _ q => absurd cz q)
        let JM : HP → Prop := fun g' => (∀ i, i < 2000 → g' 104 i = g 104 i) ∧ (∀ i, i < 75 → g' 104 (2500 + i) = g 104 i) ∧ (∀ k, k ≠ 103 → k ≠ 104 → k ≠ 120 → k ≠ 121 → g' k = g k) ∧ (∀ i, i ≠ 33 → i ≠ 34 → g' 103 i = g 103 i)
        have fin : ∀ g', JM g' → Q (some (vi 1)) (hs (hs (hs g' 103 3 (S / gN S x3)) 103 4 (x3 / gN S x3)) 103 2 0) := by
          rintro g' ⟨m1, m2, m3, m4⟩
          obtain ⟨h2, eh2⟩ : ∃ h2, h2 = hs (hs (hs g' 103 3 (S / gN S x3)) 103 4 (x3 / gN S x3)) 103 2 0 := ⟨_, rfl⟩
          rw [← eh2]
          have F : ∀ k, k ≠ 103 → h2 k = g' k := fun k hk => by rw [eh2, hs_ne hk, hs_ne hk, hs_ne hk]
          have lo : ∀ k, k < 103 → h2 k = g k := fun k hk => by rw [F k (by omega), m3 k (by omega) (by omega) (by omega) (by omega)]
          have f3 : ∀ i, i ≠ 2 → i ≠ 3 → i ≠ 4 → i ≠ 33 → i ≠ 34 → h2 103 i = h 103 i := fun i i1 i2 i3 i4 i5 => by rw [eh2, hs_o (Or.inr i1), hs_o (Or.inr i3), hs_o (Or.inr i2), m4 i i4 i5, gh 103 (by decide)]
          have g0 : ∀ i, i ≠ 0 → i ≠ 1 → i ≠ 2 → g 0 i = h 0 i := fun i i1 i2 i3 => by rw [eg, hs_o (Or.inr i1), hs_o (Or.inr i3), hs_o (Or.inr i2), j5 0 (by decide) (by decide) (by decide) (by decide)]
          have hi4 : ∀ i, i < 2000 → h2 104 i = h 104 i := fun i hi => by rw [F 104 (by decide), m1 i hi, gh 104 (by decide)]
          refine k _ (Rel_gen hR ?_ ?_ ?_ ?_ (fun i hi => f3 i (by omega) (by omega) (by omega) (by omega) (by omega)) (fun k hk => ?_) (fun i i1 i2 => hi4 i (by omega)) ?_ ?_) ?_ ?_
          · rw [lo 0 (by decide), eg, hs_s, eh2, hs_s]
          · rw [lo 0 (by decide), eg, hs_o (Or.inr (by decide)), hs_o (Or.inr (by decide)), hs_s, eh2, hs_o (Or.inr (by decide)), hs_o (Or.inr (by decide)), hs_s]
          · rw [lo 0 (by decide), eg, hs_o (Or.inr (by decide)), hs_s, eh2, hs_o (Or.inr (by decide)), hs_s]
          · rw [lo 0 (by decide), g0 13 (by decide) (by decide) (by decide)]
          · by_cases kb : k < 103
            · rw [lo k kb, gk k (by omega)]; exact j5 k (by omega) (by omega) (by omega) (by omega)
            · rw [F k (by omega), m3 k (by omega) (by omega) (by omega) (by omega)]; exact gh k (by omega)
          · refine Slot_up2 sl (R' := R0) ?_ ?_ W (by rw [e0]) (by rw [e0]) (by rw [e0]) ⟨by omega, by omega, by omega⟩ (fun i hi => ?_) (fun i _ _ => ?_) (fun k k1 k2 => ?_) (fun i i1 i2 => hi4 i (by omega)) (hi4 7 (by decide))
            · exact (rC_fr10 (fun k k1 k2 => (lo k (by omega)).trans (gk k (by omega)))).trans j1
            · have eb : rmM h2 0 = rmM h 0 := rmM_bec (fun i hi => by rw [Nat.zero_add]; exact hi4 i (by omega)) (by rw [← sl.1, ← e0]; exact W)
              rw [eb, e0]; exact sl.1.symm
            · show h2 13 i = h 13 i
              rw [lo 13 (by decide), gk 13 (by decide)]; exact j3 i hi
            · rw [F 105 (by decide), m3 105 (by decide) (by decide) (by decide) (by decide), gh 105 (by decide)]
            · rw [lo k (by omega), gk k (by omega)]; exact j5 k (by omega) (by omega) (by omega) (by omega)
          · refine RLived_c hR.2.2.2.2.2.2.2 ?_ (f3 38 (by decide) (by decide) (by decide) (by decide) (by decide)) (fun k hk => ?_)
            · rw [lo 99 (by decide), gk 99 (by decide)]; exact j6 7 (by decide)
            · rcases hk with rfl | rfl
              · rw [lo 102 (by decide), gk 102 (by decide)]; exact j5 102 (by decide) (by decide) (by decide) (by decide)
              · rw [F 122 (by decide), m3 122 (by decide) (by decide) (by decide) (by decide)]; exact gh 122 (by decide)
          · rw [F 1000 (by decide), m3 1000 (by decide) (by decide) (by decide) (by decide)]; exact gh 1000 (by decide)
          · rw [F 1001 (by decide), m3 1001 (by decide) (by decide) (by decide) (by decide)]; exact gh 1001 (by decide)
        have lp : ∀ (d i : Nat) (g2 : HP) (j7 : AV), i + d = y → JM g2 → Wp true i_M_mean 106 [vr 103, vi x1, vi x2, vi x3, vj (sumF (fun j => fnM T m R0 x1 (x2 + j)) i 0), vr 9999, vi (i : Int), j7] [] g2 Q := by
          intro d
          induction d with
          | zero =>
            intro i g2 j7 e jj
            have ei : i = y := by omega
            subst ei
            rw [← eS]
            refine g_M_mean_106 (fun _ => by omega) (fun _ => by omega) (fun _ => ?_) (fun q => by omega) (fun q => by omega)
            rw [bi_t rfl]
            exact fin g2 jj
          | succ d ih =>
            intro i g2 j7 e jj
            obtain ⟨m1, m2, m3, m4⟩ := jj
            have si := sr i (by omega)
            have P := okr (x2 + i) (by omega)
            have vrg := rVal_rg P.2.1 x1 x1
            have eR2 : rmM g2 0 = R0 := (rmM_bec (fun i hi => by rw [Nat.zero_add]; exact m1 i (by omega)) (by rw [eR]; exact W)).trans eR
            have eM2 : tkM g2 0 = T := (tkM_congr (m1 7 (by decide)) (by show g 104 7 ≤ 60; rw [e7]; exact p3.2.1) (fun i _ i2 => m1 i (by omega))).trans eM
            refine g_M_mean_106 (fun q => by omega) (fun q => by omega) (fun q => by omega) (fun _ => by omega) (fun _ => ?_)
            refine c_M_lives eR2 W eM2 (by rw [m1 7 (by decide)]; exact e7) p3 (by omega) hb (fun g3 M _ => ?_)
            have e1 : rVal (rmM g3 0) x1 x1 = fnM T m R0 x1 (x2 + i) := by rw [M.1]; rfl
            refine g_M_mean_120 (by rw [M.1]; exact P.2.1) cl (by rw [M.1]; omega) ?_
            rw [e1]
            have cp : ∀ (d i' : Nat) (g4 : HP), i' + d = 75 → (∀ k, k ≠ 104 → g4 k = g3 k) → (∀ j, 75 ≤ j → g4 104 j = g3 104 j) → (∀ j, j < i' → g4 104 j = g 104 j) → Wp true i_M_mean 134 [vr 103, vi x1, vi x2, vi x3, vj (sumF (fun j => fnM T m R0 x1 (x2 + j)) i 0 + fnM T m R0 x1 (x2 + i)), vr 9999, vi (i : Int), vi (i' : Int)] [] g4 Q := by
              intro d
              induction d with
              | zero =>
                intro i' g4 e' f fh fj
                refine g_M_mean_134 (fun _ => by omega) (fun _ => ?_) (fun q => by omega) (fun q => by omega) (fun q => by omega) (fun q => by omega) (fun q => by omega)
                have nx := ih (i + 1) g4 (vi (i' : Int)) (by omega) ⟨fun j hj => ?_, fun j hj => ?_, fun k k1 k2 k3 k4 => ?_, fun j q1 q2 => ?_⟩
                · rw [sumF_last] at nx; exact nx
                · by_cases y7 : j < 75
                  · exact fj j (by omega)
                  · rw [fh j (by omega), M.2.2.1 j (by omega)]; exact m1 j hj
                · rw [fh _ (by omega), M.2.2.1 _ (by omega)]; exact m2 j hj
                · rw [f k k2, M.2.1 k k1 k2 k3 k4]; exact m3 k k1 k2 k3 k4
                · rw [f 103 (by decide), M.2.2.2.2.1 j q1 q2]; exact m4 j q1 q2
              | succ d ih2 =>
                intro i' g4 e' f fh fj
                refine g_M_mean_134 (fun q => by omega) (fun q => by omega) (fun _ => by omega) (fun _ => by omega) (fun _ => by omega) (fun _ => by omega) (fun _ => ?_)
                rw [show ((i' : Int)).toNat = i' from Int.toNat_natCast _, show (2500 + (i' : Int)).toNat = 2500 + i' by omega]
                refine ih2 (i' + 1) _ (by omega) (fun k hk => by rw [hs_ne hk]; exact f k hk) (fun j hj => by rw [hs_o (Or.inr (by omega))]; exact fh j hj) (fun j hj => ?_)
                by_cases y7 : j = i'
                · subst y7; rw [hs_s, fh _ (by omega), M.2.2.1 _ (by omega)]; exact m2 j (by omega)
                · rw [hs_o (Or.inr y7)]; exact fj j (by omega)
            exact cp 75 0 g3 (by omega) (fun _ _ => rfl) (fun _ _ => rfl) (fun j hj => by omega)
        have cp0 : ∀ (d i' : Nat) (g4 : HP), i' + d = 75 → (∀ k, k ≠ 104 → g4 k = g k) → (∀ j, j < 2000 → g4 104 j = g 104 j) → (∀ j, j < i' → g4 104 (2500 + j) = g 104 j) → Wp true i_M_mean 69 [vr 103, vi x1, vi x2, vi x3, vi (i' : Int), vr 9999, vr 9999, vr 9999] [] g4 Q := by
          intro d
          induction d with
          | zero =>
            intro i' g4 e' f fh fj
            refine g_M_mean_69 (fun _ => ?_) (fun q => by omega) (fun q => by omega) (fun q => by omega) (fun q => by omega) (fun q => by omega)
            exact lp y 0 g4 _ (by omega) ⟨fh, fun j hj => fj j (by omega), fun k _ k2 _ _ => f k k2, fun j _ _ => by rw [f 103 (by decide)]⟩
          | succ d ih2 =>
            intro i' g4 e' f fh fj
            refine g_M_mean_69 (fun q => by omega) (fun _ => by omega) (fun _ => by omega) (fun _ => by omega) (fun _ => by omega) (fun _ => ?_)
            rw [show ((i' : Int)).toNat = i' from Int.toNat_natCast _, show (2500 + (i' : Int)).toNat = 2500 + i' by omega]
            refine ih2 (i' + 1) _ (by omega) (fun k hk => by rw [hs_ne hk]; exact f k hk) (fun j hj => by rw [hs_o (Or.inr (by omega))]; exact fh j hj) (fun j hj => ?_)
            by_cases y7 : j = i'
            · subst y7; rw [hs_s]; exact fh j (by omega)
            · rw [hs_o (Or.inr (by omega))]; exact fj j (by omega)
        exact cp0 75 0 g (by omega) (fun _ _ => rfl) (fun _ _ => rfl) (fun j hj => by omega)
  · refine ag_act0 (v := vi 0) (st := 1) hR (fun Q k => ?_) (fun g Q e gk k => ?_)
    · rw [← b0] at k
      exact g_C_mean_0 (fun _ => k) (fun _ _ => k) (fun _ _ _ => k) (fun _ _ _ => by omega) (fun _ _ _ => by omega) (fun a1 a2 a3 a4 => absurd ⟨a1, a2, a3, a4⟩ c) (fun a1 a2 a3 a4 => absurd ⟨a1, a2, a3, a4⟩ c) (fun _ _ _ _ => k)
    · rw [← b1] at k
      exact g_M_mean_0 (fun _ => k) (fun _ _ => k) (fun _ _ _ => k) (fun _ _ _ => by omega) (fun _ _ _ => by omega) (fun a1 a2 a3 a4 => absurd ⟨a1, a2, a3, a4⟩ c) (fun a1 a2 a3 a4 => absurd ⟨a1, a2, a3, a4⟩ c) (fun _ _ _ _ => k)
