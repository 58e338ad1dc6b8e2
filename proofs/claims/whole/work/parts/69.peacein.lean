noncomputable def cutP (R : HP) (a b : Int) : Nat → Nat
  | 0 => fK (fun _ => True) (pb R a b 0) (leP R a b) ((R 0 0).toNat + 1)
  | r + 1 => fK (nearK R (cutP R a b r)) (fun k => pb R a b (r + 1) k + (((k : Int) - (cutP R a b r : Nat)).natAbs : Int)) (pb R a b r (cutP R a b r)) ((R 0 0).toNat + 1)
theorem pb_m {R : HP} {a b : Int} {r l : Nat} (hr : (r : Int) + 1 < R 0 1) (q : pb R a b r l < 1000000) : pb R a b r l = pbm R a b r l := by
  rw [pb_step hr] at q ⊢
  by_cases y : okP R a b r l
  · rw [cho_t y]
  · rw [cho_f y] at q; omega
theorem pb_ex {R : HP} {a b : Int} {r l : Nat} (hr : (r : Int) + 1 < R 0 1) (q : pb R a b r l < 1000000) : ∃ k, k < (R 0 0).toNat + 1 ∧ nearK R l k ∧ pb R a b (r + 1) k + (((k : Int) - (l : Nat)).natAbs : Int) = pb R a b r l := by
  have e := pb_m hr q
  rw [e] at q ⊢
  exact mnK_at _ q
theorem cut_ok {R : HP} {a b : Int} (hd : 0 < R 0 1) (q : leP R a b < 1000000) : ∀ (r : Nat), (r : Int) < R 0 1 → cutP R a b r < (R 0 0).toNat + 1 ∧ pb R a b r (cutP R a b r) < 1000000 := by
  intro r
  induction r with
  | zero =>
    intro _
    have el : leP R a b = mnK (fun _ => True) (pb R a b 0) ((R 0 0).toNat + 1) := cho_t hd
    have f : FK (fun _ => True) (pb R a b 0) (leP R a b) ((R 0 0).toNat + 1) (cutP R a b 0) := FK_ex (by
      rw [el] at q ⊢
      exact mnK_at _ q)
    exact ⟨f.1, by rw [f.2.2.1]; exact q⟩
  | succ r ih =>
    intro hr
    have i := ih (by omega)
    have f : FK (nearK R (cutP R a b r)) (fun k => pb R a b (r + 1) k + (((k : Int) - (cutP R a b r : Nat)).natAbs : Int)) (pb R a b r (cutP R a b r)) ((R 0 0).toNat + 1) (cutP R a b (r + 1)) := FK_ex (pb_ex (by omega) i.2)
    refine ⟨f.1, ?_⟩
    have e := f.2.2.1
    have := i.2
    simp only at e
    omega
theorem cut_0 {R : HP} {a b : Int} (hd : 0 < R 0 1) (q : leP R a b < 1000000) : FK (fun _ => True) (pb R a b 0) (leP R a b) ((R 0 0).toNat + 1) (cutP R a b 0) := by
  have el : leP R a b = mnK (fun _ => True) (pb R a b 0) ((R 0 0).toNat + 1) := cho_t hd
  exact FK_ex (by
    rw [el] at q ⊢
    exact mnK_at _ q)
theorem cut_s {R : HP} {a b : Int} (hd : 0 < R 0 1) (q : leP R a b < 1000000) {r : Nat} (hr : (r : Int) + 1 < R 0 1) : FK (nearK R (cutP R a b r)) (fun k => pb R a b (r + 1) k + (((k : Int) - (cutP R a b r : Nat)).natAbs : Int)) (pb R a b r (cutP R a b r)) ((R 0 0).toNat + 1) (cutP R a b (r + 1)) :=
  FK_ex (pb_ex hr (cut_ok hd q r (by omega)).2)
theorem c_Bo_peaceCutBehind {Q : PQ} {h R : HP} {a b : Int} {r f1 : Nat} (h_f1 : isF f1) (eR : rmC h f1 = R) (W : WR R) (J : JT R a b 93 h 0) (hd : 0 < R 0 1) (q : leP R a b < 1000000) (hr : (r : Int) + 1 < R 0 1)
    (k : Q (some (vi (cutP R a b (r + 1) : Nat))) h) : Wp true i_Bo_peaceCutBehind 0 [vr 92, vr f1, vi ((r : Int) + 1), vi (cutP R a b r : Nat), vr 9999, vr 9999, vr 9999, vr 9999, vr 9999] [] h Q := by
  have w := W.1
  have dd := cdim eR
  have F := cut_s hd q hr
  have co := cut_ok hd q r (by omega)
  have hm := pb_m hr co.2
  obtain ⟨m, em⟩ : ∃ m, m = cutP R a b r := ⟨_, rfl⟩
  rw [← em] at F co hm ⊢
  let G : Nat → Int := fun k => pb R a b (r + 1) k + (((k : Int) - (m : Nat)).natAbs : Int)
  have hle : ∀ j : Nat, j < (R 0 0).toNat + 1 → nearK R m j → pb R a b r m ≤ G j := by
    intro j j1 j2
    rw [hm]
    exact mnK_le (f := G) j1 j2
  have vv : ∀ i : Nat, (i : Int) ≤ R 0 0 → h 93 (((r : Int) + 1) * 10 + (i : Int)).toNat = pb R a b (r + 1) i := by
    intro i hi
    rw [show (((r : Int) + 1) * 10 + (i : Int)).toNat = 10 * (r + 1) + i by omega]
    exact J (r + 1) i (by omega) (by omega) hi
  obtain ⟨lo, elo⟩ : ∃ lo : Nat, max 0 ((m : Int) - h f1 2) = lo := ⟨(max 0 ((m : Int) - h f1 2)).toNat, by omega⟩
  obtain ⟨hi, ehi⟩ : ∃ hi : Nat, min (h f1 0) ((m : Int) + h f1 2) = hi := ⟨(min (h f1 0) ((m : Int) + h f1 2)).toNat, by omega⟩
  have key : ∀ (d i c : Nat) (j8 : AV), i + d = hi + 1 → lo ≤ c → c < i → (∀ j, lo ≤ j → j < i → G c ≤ G j) → (∀ j, lo ≤ j → j < c → G c < G j) → Wp true i_Bo_peaceCutBehind 55 [vr 92, vr f1, vi ((r : Int) + 1), vi (m : Int), vi (hi : Int), vi (c : Int), vi (G c), vi (i : Int), j8] [] h Q := by
    intro d
    induction d with
    | zero =>
      intro i c j8 e h1 h2 h3 h4
      have ec : cutP R a b (r + 1) = c := by
        have nr : ∀ j, nearK R m j → lo ≤ j := by intro j; unfold nearK; omega
        have nr2 : ∀ j, j < (R 0 0).toNat + 1 → nearK R m j → j < i := by intro j; unfold nearK; omega
        have gc : G c = pb R a b r m := by
          have a1 := hle c (by omega) (by unfold nearK; omega)
          have a2 := h3 _ (nr _ F.2.1) (nr2 _ F.1 F.2.1)
          have a3 : G (cutP R a b (r + 1)) = pb R a b r m := F.2.2.1
          omega
        refine FK_un F ⟨by omega, by unfold nearK; omega, gc, fun j hj nj e => ?_⟩
        have := h4 j (nr j nj) hj
        have e' : G j = pb R a b r m := e
        omega
      rw [ec] at k
      exact g_Bo_peaceCutBehind_55 h_f1 (fun _ => k) (fun q => by omega) (fun q => by omega) (fun q => by omega) (fun q => by omega) (fun q => by omega) (fun q => by omega) (fun q => by omega) (fun q => by omega) (fun q => by omega) (fun q => by omega)
    | succ d ih =>
      intro i c j8 e h1 h2 h3 h4
      have v := vv i (by omega)
      have rg := pb_rg (R := R) (a := a) (b := b) (r + 1) i
      have eg : (((i : Int) - (m : Int)).natAbs : Int) + h 93 (((r : Int) + 1) * 10 + (i : Int)).toNat = G i := by rw [v, Int.add_comm]
      refine g_Bo_peaceCutBehind_55 h_f1 (fun q => by omega) (fun q => by omega) (fun q => by omega) (fun q => by omega) (fun q => by omega) (fun q => by omega) (fun q => by rw [v]; omega) (fun _ q => by omega) (fun _ z => ?_) (fun _ q => by omega) (fun _ z => ?_)
      · rw [eg] at z
        refine ih (i + 1) c _ (by omega) h1 (by omega) (fun j j1 j2 => ?_) h4
        by_cases y : j = i
        · subst y; exact z
        · exact h3 j j1 (by omega)
      · rw [eg] at z ⊢
        refine ih (i + 1) i _ (by omega) (by omega) (by omega) (fun j j1 j2 => ?_) (fun j j1 j2 => ?_)
        · by_cases y : j = i
          · subst y; exact Int.le_refl _
          · have := h3 j j1 (by omega); omega
        · have := h3 j j1 (by omega); omega
  have v := vv lo (by omega)
  have rg := pb_rg (R := R) (a := a) (b := b) (r + 1) lo
  have st := fun j8 => key (hi + 1 - (lo + 1)) (lo + 1) lo j8 (by omega) (by omega) (by omega) (fun j j1 j2 => by rw [show j = lo by omega]; exact Int.le_refl _) (fun j j1 j2 => by omega)
  refine g_Bo_peaceCutBehind_0 h_f1 (by omega) (by omega) (by omega) (by omega) (by omega) (by omega) (by omega) (by rw [elo, v]; omega) (by omega) ?_
  rw [elo, ehi, v]
  have eg : (((lo : Int) - (m : Int)).natAbs : Int) + pb R a b (r + 1) lo = G lo := Int.add_comm _ _
  rw [eg]
  exact st _
theorem c_Bo_peaceCut {Q : PQ} {h R : HP} {a b : Int} {r f1 : Nat} (h_f1 : isF f1) (eR : rmC h f1 = R) (W : WR R) (J : JT R a b 93 h 0) (q : leP R a b < 1000000) (hr : (r : Int) < R 0 1)
    (k : Q (some (vi (cutP R a b r : Nat))) h) : Wp true i_Bo_peaceCut 0 [vr 92, vr f1, vi (r : Int), vr 9999, vr 9999] [] h Q := by
  have w := W.1
  have dd := cdim eR
  have hd : 0 < R 0 1 := by omega
  have F := cut_0 (a := a) (b := b) hd q
  have el : leP R a b = mnK (fun _ => True) (pb R a b 0) ((R 0 0).toNat + 1) := cho_t hd
  have rows : ∀ (d i : Nat), i + d = r → Wp true i_Bo_peaceCut 42 [vr 92, vr f1, vi (r : Int), vi (cutP R a b i : Nat), vi ((i : Int) + 1)] [] h Q := by
    intro d
    induction d with
    | zero =>
      intro i e
      rw [show i = r by omega]
      exact g_Bo_peaceCut_42 h_f1 (fun _ => k) (fun q => by omega)
    | succ d ih =>
      intro i e
      refine g_Bo_peaceCut_42 h_f1 (fun q => by omega) (fun _ => ?_)
      refine c_Bo_peaceCutBehind h_f1 eR W J hd q (by omega) ?_
      exact g_Bo_peaceCut_56 h_f1 (by omega) (ih (i + 1) (by omega))
  have vv : ∀ i : Nat, (i : Int) ≤ R 0 0 → h 93 ((i : Int)).toNat = pb R a b 0 i := by
    intro i hi
    rw [show ((i : Int)).toNat = 10 * 0 + i by omega]
    exact J 0 i (by omega) (by omega) hi
  have key : ∀ (d i c : Nat), (i : Int) + d = R 0 0 + 1 → c < i → (∀ j, j < i → pb R a b 0 c ≤ pb R a b 0 j) → (∀ j, j < c → pb R a b 0 c < pb R a b 0 j) → Wp true i_Bo_peaceCut 5 [vr 92, vr f1, vi (r : Int), vi (c : Int), vi (i : Int)] [] h Q := by
    intro d
    induction d with
    | zero =>
      intro i c e h2 h3 h4
      have ec : cutP R a b 0 = c := by
        have gc : pb R a b 0 c = leP R a b := by
          have a1 : leP R a b ≤ pb R a b 0 c := by rw [el]; exact mnK_le (by omega) trivial
          have a2 := h3 _ (show cutP R a b 0 < i by have := F.1; omega)
          have a3 := F.2.2.1
          omega
        refine FK_un F ⟨by omega, trivial, gc, fun j hj _ e => ?_⟩
        have := h4 j hj
        omega
      have st := rows r 0 (by omega)
      rw [ec] at st
      exact g_Bo_peaceCut_5 h_f1 (fun _ => st) (fun q => by omega) (fun q => by omega) (fun q => by omega) (fun q => by omega) (fun q => by omega) (fun q => by omega)
    | succ d ih =>
      intro i c e h2 h3 h4
      refine g_Bo_peaceCut_5 h_f1 (fun q => by omega) (fun q => by omega) (fun q => by omega) (fun _ _ => by omega) (fun _ z => ?_) (fun _ _ => by omega) (fun _ z => ?_)
      · rw [vv i (by omega), vv c (by omega)] at z
        refine ih (i + 1) c (by omega) (by omega) (fun j j2 => ?_) h4
        by_cases y : j = i
        · subst y; exact z
        · exact h3 j (by omega)
      · rw [vv i (by omega), vv c (by omega)] at z
        refine ih (i + 1) i (by omega) (by omega) (fun j j2 => ?_) (fun j j2 => ?_)
        · by_cases y : j = i
          · subst y; exact Int.le_refl _
          · have := h3 j (by omega); omega
        · have := h3 j (by omega); omega
  exact g_Bo_peaceCut_0 h_f1 (key (R 0 0).toNat 1 0 (by omega) (by omega) (fun j hj => by rw [show j = 0 by omega]; exact Int.le_refl _) (fun j hj => by omega))
theorem c_M_peaceWalk {Q : PQ} {g R : HP} {x1 x2 : Int} {r : Nat} (eR : rmM g 0 = R) (W : WR R) (J : JT R x1 x2 115 g 0) (q : leP R x1 x2 < 1000000) (hr : (r : Int) < R 0 1)
    (k : Q (some (vi (cutP R x1 x2 r : Nat))) (hs g 103 2 0)) : Wp true i_M_peaceIn 49 [vr 103, vi x1, vi x2, vi (r : Int), vi (leP R x1 x2), vi 0, vr 9999, vr 9999] [] g Q := by
  have w := W.1
  have dd := mdim eR
  have hd : 0 < R 0 1 := by omega
  have F := cut_0 (a := x1) (b := x2) hd q
  have rows : ∀ (d i : Nat) (j7 : AV), i + d = r → Wp true i_M_peaceIn 70 [vr 103, vi x1, vi x2, vi (r : Int), vi (leP R x1 x2), vi (cutP R x1 x2 i : Nat), vi ((i : Int) + 1), j7] [] g Q := by
    intro d
    induction d with
    | zero =>
      intro i j7 e
      rw [show i = r by omega]
      exact g_M_peaceIn_70 (fun _ => k) (fun q => by omega)
    | succ d ih =>
      intro i j7 e
      refine g_M_peaceIn_70 (fun q => by omega) (fun _ => ?_)
      have Fs := cut_s (a := x1) (b := x2) hd q (r := i) (by omega)
      have co := cut_ok (a := x1) (b := x2) hd q i (by omega)
      have nx := fun j7 => ih (i + 1) j7 (by omega)
      have f1 := Fs.1
      have vm : g 115 (10 * ((i : Int) + 1 - 1) + ((cutP R x1 x2 i : Nat) : Int)).toNat = pb R x1 x2 i (cutP R x1 x2 i) := by
        rw [show (10 * ((i : Int) + 1 - 1) + ((cutP R x1 x2 i : Nat) : Int)).toNat = 10 * i + cutP R x1 x2 i by omega]
        exact J i _ (by omega) (by omega) (by omega)
      obtain ⟨m, em⟩ : ∃ m, m = cutP R x1 x2 i := ⟨_, rfl⟩
      rw [← em] at Fs co vm ⊢
      obtain ⟨t, et⟩ : ∃ t, t = cutP R x1 x2 (i + 1) := ⟨_, rfl⟩
      rw [← et] at Fs nx f1
      have srch : ∀ (d j : Nat), j + d = t → Wp true i_M_peaceIn 79 [vr 103, vi x1, vi x2, vi (r : Int), vi (leP R x1 x2), vi (m : Int), vi ((i : Int) + 1), vi (j : Int)] [] g Q := by
        intro d
        induction d with
        | zero =>
          intro j e
          have ej : j = t := by omega
          subst ej
          have iy : (10 * ((i : Int) + 1) + (j : Int)).toNat = 10 * (i + 1) + j := by omega
          have v := J (i + 1) j (by omega) (by omega) (by omega)
          have rg := pb_rg (R := R) (a := x1) (b := x2) (i + 1) j
          have nr := Fs.2.1
          unfold nearK at nr
          have ev := Fs.2.2.1
          simp only at ev
          refine g_M_peaceIn_79 (by omega) (by omega) (fun q => by omega) (fun q => by omega) (fun _ => by omega) (fun _ => by omega) (fun _ => by omega) (fun _ => by rw [iy, v]; omega) (fun _ => by omega) (fun _ => by omega) (fun _ => by omega) (fun _ => by omega) (fun _ _ => by omega) (fun _ _ => ?_) (fun _ z => ?_) (fun _ z => ?_)
          · exact nx _
          · exfalso; apply z; rw [iy, v, vm]; exact ev
          · exfalso; apply z; rw [iy, v, vm]; exact ev
        | succ d ih =>
          intro j e
          have iy : (10 * ((i : Int) + 1) + (j : Int)).toNat = 10 * (i + 1) + j := by omega
          have v := J (i + 1) j (by omega) (by omega) (by omega)
          have rg := pb_rg (R := R) (a := x1) (b := x2) (i + 1) j
          have nx2 := ih (j + 1) (by omega)
          refine g_M_peaceIn_79 (by omega) (by omega) (fun q => by omega) (fun q => nx2) (fun _ => by omega) (fun _ => by omega) (fun _ => by omega) (fun _ => by rw [iy, v]; omega) (fun _ => by omega) (fun _ => by omega) (fun _ => by omega) (fun _ => by omega) (fun _ _ => by omega) (fun z1 z2 => ?_) (fun _ _ => by omega) (fun _ _ => nx2)
          exfalso
          rw [iy, v, vm] at z2
          exact Fs.2.2.2 j (by omega) (by unfold nearK; omega) z2
      exact srch t 0 (by omega)
  obtain ⟨t, et⟩ : ∃ t, t = cutP R x1 x2 0 := ⟨_, rfl⟩
  have st := fun j7 => rows r 0 j7 (by omega)
  rw [← et] at F st
  have f1 := F.1
  have srch : ∀ (d j : Nat), j + d = t → Wp true i_M_peaceIn 49 [vr 103, vi x1, vi x2, vi (r : Int), vi (leP R x1 x2), vi (j : Int), vr 9999, vr 9999] [] g Q := by
    intro d
    induction d with
    | zero =>
      intro j e
      have ej : j = t := by omega
      subst ej
      have v : g 115 ((j : Int)).toNat = pb R x1 x2 0 j := by
        rw [show ((j : Int)).toNat = 10 * 0 + j by omega]
        exact J 0 j (by omega) (by omega) (by omega)
      have ev := F.2.2.1
      refine g_M_peaceIn_49 (by omega) (fun _ => st _) (fun z => ?_) (fun z => ?_)
      · exfalso; apply z; rw [v]; exact ev
      · exfalso; apply z; rw [v]; exact ev
    | succ d ih =>
      intro j e
      have v : g 115 ((j : Int)).toNat = pb R x1 x2 0 j := by
        rw [show ((j : Int)).toNat = 10 * 0 + j by omega]
        exact J 0 j (by omega) (by omega) (by omega)
      refine g_M_peaceIn_49 (by omega) (fun z => ?_) (fun z => by omega) (fun z => ih (j + 1) (by omega))
      exfalso
      rw [v] at z
      exact F.2.2.2 j (by omega) trivial z
  exact srch t 0 (by omega)
theorem A_peaceIn {n : Nat} {h : HP} {x1 x2 x3 : Int} (hR : Rel n h) : Agree n h i_C_peaceIn i_M_peaceIn [vr 0, vi x1, vi x2, vi x3] [vr 103, vi x1, vi x2, vi x3, vr 9999, vr 9999, vr 9999, vr 9999] := by
  have s := hR.2.2.2.2.2.1
  have W := s.2.1
  have dd := cdim (rfl : rmC h 10 = rmC h 10)
  have w := W.1
  by_cases c : (0 ≤ x1 ∧ x1 < o_shl 1 (h 10 3)) ∧ (0 ≤ x2 ∧ x2 < o_shl 1 (h 10 3)) ∧ (0 ≤ x3 ∧ x3 < h 10 1)
  · have rg := leP_rg (R := rmC h 10) (a := x1) (b := x2)
    obtain ⟨r, er⟩ : ∃ r : Nat, x3 = r := ⟨x3.toNat, by omega⟩
    subst er
    refine ag_scr (v := vi (if leP (rmC h 10) x1 x2 < 1000000 then ((cutP (rmC h 10) x1 x2 r : Nat) : Int) else -1)) (st := if leP (rmC h 10) x1 x2 < 1000000 then 0 else 6) hR (fun Q k => ?_) (fun g Q e gk k => ?_)
    · refine g_C_peaceIn_0 (fun q => absurd c.1 q) (fun _ q => absurd c.2.1 q) (fun _ _ _ => ?_) (fun _ _ q => absurd c.2.2 q)
      refine c_Bo_leastChalk isF_10 rfl W (fun h' f J => ?_)
      have k := k h' (fun k hk => f k (by omega))
      by_cases z : leP (rmC h 10) x1 x2 < 1000000
      · rw [if_pos z, if_pos z] at k
        rw [if_pos z]
        refine g_C_peaceIn_52 (fun _ => ?_) (fun q => by omega)
        refine c_Bo_peaceCut isF_10 (rC_frame isF_10 (fun k hk => f k (by omega))) W J z (by omega) ?_
        exact g_C_peaceIn_75 k
      · rw [if_neg z, if_neg z] at k
        rw [if_neg z]
        exact g_C_peaceIn_52 (fun q => by omega) (fun _ => k)
    · have d := mdim e
      have c' : (0 ≤ x1 ∧ x1 < o_shl 1 (g 104 2)) ∧ (0 ≤ x2 ∧ x2 < o_shl 1 (g 104 2)) := by rw [d.2.2.2.1]; exact ⟨c.1, c.2.1⟩
      refine g_M_peaceIn_0 (g_M_areSets_0 (fun q => by omega) (fun _ q => by omega) (fun _ _ q => by omega) (fun _ _ _ q => by omega) (fun _ _ _ _ => ?_))
      refine g_M_peaceIn_6 (fun q => absurd q (by decide)) (fun _ _ => ?_) (fun _ q => absurd ⟨by omega, by omega⟩ q)
      refine c_M_laysPeace e W (fun g' f J => ?_)
      have k := k g' (ScM_0 (fun k hk => f k (by omega)))
      refine g_M_peaceIn_29 (fun q => ?_) (fun q => ?_)
      · rw [if_pos q, if_pos q] at k
        exact c_M_peaceWalk ((rmM_congr (f 104 (by decide))).trans e) W J q (by omega) k
      · rw [if_neg q, if_neg q] at k; exact k
  · refine ag_act0 (v := vi (-1)) (st := 1) hR (fun Q k => ?_) (fun g Q e gk k => ?_)
    · exact g_C_peaceIn_0 (fun _ => k) (fun _ _ => k) (fun q1 q2 q3 => absurd ⟨q1, q2, q3⟩ c) (fun _ _ _ => k)
    · have d := mdim e
      have c' : ¬ ((0 ≤ x1 ∧ x1 < o_shl 1 (g 104 2)) ∧ (0 ≤ x2 ∧ x2 < o_shl 1 (g 104 2)) ∧ (0 ≤ x3 ∧ x3 < g 104 1)) := by rw [d.2.2.2.1, d.2.1]; exact c
      have fin : Wp true i_M_peaceIn 6 [vr 103, vi x1, vi x2, vi x3, vr 9999, vr 9999, vr 9999, vr 9999] [vi 0] g Q := g_M_peaceIn_6 (fun _ => k) (fun q => absurd rfl q) (fun q => absurd rfl q)
      refine g_M_peaceIn_0 (g_M_areSets_0 (fun _ => fin) (fun _ _ => fin) (fun _ _ _ => fin) (fun _ _ _ _ => fin) (fun q1 q2 q3 q4 => ?_))
      exact g_M_peaceIn_6 (fun _ => k) (fun _ q => absurd ⟨⟨by omega, by omega⟩, ⟨by omega, by omega⟩, q⟩ c') (fun _ _ => k)
