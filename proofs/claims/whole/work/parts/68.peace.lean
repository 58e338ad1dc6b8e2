theorem c_M_laysPeace {Q : PQ} {g R : HP} {x1 x2 : Int} (eR : rmM g 0 = R) (W : WR R)
    (k : ∀ g', (∀ k, k ≠ 115 → g' k = g k) → JT R x1 x2 115 g' 0 → Q (some (vi (leP R x1 x2))) g') : Wp true i_M_laysPeace 0 [vr 103, vi x1, vi x2, vr 9999, vr 9999, vr 9999, vr 9999, vr 9999] [] g Q := by
  have w := W.1
  have d0 := mdim eR
  have fr : ∀ h1 : HP, (∀ k, k ≠ 115 → h1 k = g k) → rmM h1 0 = R := fun h1 f => (rmM_congr (f 104 (by decide))).trans eR
  let lst : Nat → Nat → Int := fun r l => if r = 0 then mnK (fun _ => True) (pb R x1 x2 0) l else 1000000
  have inner : ∀ (d l r : Nat) (h1 : HP) (j6 j7 : AV), (l : Int) + d = R 0 0 + 1 → (r : Int) < R 0 1 → (∀ k, k ≠ 115 → h1 k = g k) → JT R x1 x2 115 h1 (r + 1) → (∀ l' : Nat, l' < l → h1 115 (10 * r + l') = pb R x1 x2 r l') →
      (∀ (h2 : HP) (j5 j6 j7 : AV), (∀ k, k ≠ 115 → h2 k = g k) → JT R x1 x2 115 h2 r → Wp true i_M_laysPeace 14 [vr 103, vi x1, vi x2, vi (lst r ((R 0 0).toNat + 1)), vi ((r : Int) - 1), j5, j6, j7] [] h2 Q) → Wp true i_M_laysPeace 22 [vr 103, vi x1, vi x2, vi (lst r l), vi (r : Int), vi (l : Int), j6, j7] [] h1 Q := by
    intro d
    induction d with
    | zero =>
      intro l r h1 j6 j7 e hr f J pr kk
      have dd := mdim (fr h1 f)
      rw [show l = (R 0 0).toNat + 1 by omega] at pr ⊢
      refine g_M_laysPeace_22 (fun _ => by omega) (fun _ => kk h1 _ _ _ f ?_) (fun q => by omega) (fun q => by omega) (fun q => by omega)
      intro r' l' q1 q2 q3
      by_cases z : r' = r
      · subst z; exact pr l' (by omega)
      · exact J r' l' (by omega) q2 q3
    | succ d ih =>
      intro l r h1 j6 j7 e hr f J pr kk
      have dd := mdim (fr h1 f)
      have ix : (10 * (r : Int) + (l : Int)).toNat = 10 * r + l := by omega
      have rgp := pb_rg (R := R) (a := x1) (b := x2) r l
      have b169 : ∀ (v x6 x7 : Int), v = pb R x1 x2 r l → Wp true i_M_laysPeace 169 [vr 103, vi x1, vi x2, vi (lst r l), vi (r : Int), vi (l : Int), vi x6, vi x7] [vi v, vi (10 * (r : Int) + (l : Int)), vr 115] h1 Q := by
        intro v x6 x7 hv
        have nx : Wp true i_M_laysPeace 22 [vr 103, vi x1, vi x2, vi (lst r (l + 1)), vi (r : Int), vi ((l : Int) + 1), vi x6, vi x7] [] (hs h1 115 (10 * r + l) v) Q := by
          refine ih (l + 1) r _ _ _ (by omega) hr (fun k hk => (hs_ne hk).trans (f k hk)) (fun r' l' q1 q2 q3 => ?_) (fun l' q => ?_) kk
          · rw [hs_o (Or.inr (by omega))]; exact J r' l' q1 q2 q3
          · by_cases z : l' = l
            · subst z; rw [hs_s]; exact hv
            · rw [hs_o (Or.inr (by omega))]; exact pr l' (by omega)
        refine g_M_laysPeace_169 (by omega) (fun _ => by omega) (fun z => ?_) (fun _ => by omega) (fun _ => by omega) (fun z => ?_)
        · rw [ix]
          have z' : ¬ r = 0 := by omega
          simp only [lst] at nx ⊢
          rw [if_neg z'] at nx ⊢
          exact nx
        · rw [ix]
          have z' : r = 0 := by omega
          subst z'
          simp only [lst] at nx ⊢
          rw [if_pos trivial] at nx ⊢
          simp only [mnK] at nx
          rw [cho_t trivial, ← hv] at nx
          rw [show ((l : Int)).toNat = 10 * 0 + l by omega, hs_s]
          exact nx
      have b136 : ∀ (x6 x7 : Int), (okP R x1 x2 r l → x6 = pb R x1 x2 r l) → Wp true i_M_laysPeace 136 [vr 103, vi x1, vi x2, vi (lst r l), vi (r : Int), vi (l : Int), vi x6, vi x7] [] h1 Q := by
        intro x6 x7 hx
        refine g_M_laysPeace_136 (by omega) (by omega) (c_M_isPeace (fr h1 f) W (fun ok => ?_) (fun ok => ?_))
        · exact g_M_laysPeace_158 (fun q => absurd q (by decide)) (fun _ => b169 _ _ _ (hx ok))
        · refine g_M_laysPeace_158 (fun _ => b169 _ _ _ ?_) (fun q => absurd rfl q)
          by_cases z : (r : Int) + 1 < R 0 1
          · rw [pb_step z, cho_f ok]
          · rw [pb_last (by omega), cho_f ok]
      by_cases z : (r : Int) + 1 < R 0 1
      · let F : Nat → Int := fun k => pb R x1 x2 (r + 1) k + (((k : Int) - l).natAbs : Int)
        have key : ∀ (d i : Nat), (i : Int) + d = R 0 0 + 1 → Wp true i_M_laysPeace 58 [vr 103, vi x1, vi x2, vi (lst r l), vi (r : Int), vi (l : Int), vi (mnK (nearK R l) F i), vi (i : Int)] [] h1 Q := by
          intro d
          induction d with
          | zero =>
            intro i e
            have fin := b136 (mnK (nearK R l) F i) (i : Int) (fun ok => by
              rw [pb_step z, cho_t ok]
              unfold pbm
              rw [show (R 0 0).toNat + 1 = i by omega])
            exact g_M_laysPeace_58 (fun _ => fin) (fun q => by omega) (fun q => by omega) (fun q => by omega) (fun q => by omega) (fun q => by omega) (fun q => by omega) (fun q => by omega) (fun q => by omega) (fun q => by omega) (fun q => by omega) (fun q => by omega) (fun q => by omega) (fun q => by omega)
          | succ d ih =>
            intro i e
            have nx := ih (i + 1) (by omega)
            have iy : (10 * ((r : Int) + 1) + (i : Int)).toNat = 10 * (r + 1) + i := by omega
            have v := J (r + 1) i (Nat.le_refl _) (by omega) (by omega)
            have rg := pb_rg (R := R) (a := x1) (b := x2) (r + 1) i
            simp only [mnK] at nx
            refine g_M_laysPeace_58 (fun q => by omega) (fun _ => by omega) (fun _ q => by omega) (fun _ _ => by omega) (fun _ _ => by omega) (fun _ _ _ => by omega) (fun _ _ q => ?_) (fun _ _ _ => by omega) (fun _ _ _ => by omega) (fun _ _ _ => by omega) (fun _ _ _ => by omega) (fun _ _ _ => by rw [iy, v]; omega) (fun _ _ _ => by omega) (fun _ _ q => ?_)
            · rw [cho_f (show ¬ nearK R l i by unfold nearK; omega)] at nx
              exact nx
            · rw [cho_t (show nearK R l i by unfold nearK; omega)] at nx
              rw [iy, v]
              exact nx
        refine g_M_laysPeace_22 (fun q => by omega) (fun q => by omega) (fun _ => by omega) (fun _ _ => ?_) (fun _ q => by omega)
        exact key ((R 0 0).toNat + 1) 0 (by omega)
      · have fin := b136 0 0 (fun ok => by rw [pb_last (by omega), cho_t ok])
        refine g_M_laysPeace_22 (fun q => by omega) (fun q => by omega) (fun _ => by omega) (fun _ q => by omega) (fun _ _ => ?_)
        exact g_M_laysPeace_58 (fun _ => fin) (fun q => by omega) (fun _ _ => fin) (fun _ q => by omega) (fun _ q => by omega) (fun _ q => by omega) (fun _ q => by omega) (fun _ q => by omega) (fun _ q => by omega) (fun _ q => by omega) (fun _ q => by omega) (fun _ q => by omega) (fun _ q => by omega) (fun _ q => by omega)
  have outer : ∀ (m : Nat) (h1 : HP) (j5 j6 j7 : AV) (v : Int), (m : Int) ≤ R 0 1 → (∀ k, k ≠ 115 → h1 k = g k) → JT R x1 x2 115 h1 m → v = (if m = 0 then leP R x1 x2 else 1000000) → Wp true i_M_laysPeace 14 [vr 103, vi x1, vi x2, vi v, vi ((m : Int) - 1), j5, j6, j7] [] h1 Q := by
    intro m
    induction m with
    | zero =>
      intro h1 j5 j6 j7 v hm f J hv
      rw [if_pos rfl] at hv
      subst hv
      exact g_M_laysPeace_14 (fun _ => k h1 f J) (fun q => by omega)
    | succ m ih =>
      intro h1 j5 j6 j7 v hm f J hv
      rw [if_neg (by omega)] at hv
      refine g_M_laysPeace_14 (fun q => by omega) (fun _ => ?_)
      rw [show (((m + 1 : Nat) : Int) - 1) = (m : Int) by omega]
      have st := inner ((R 0 0).toNat + 1) 0 m h1 j6 j7 (by omega) (by omega) f J (fun l' z => absurd z (by omega)) (fun h2 j5 j6 j7 f2 J2 => ih h2 j5 j6 j7 _ (by omega) f2 J2 (by
        simp only [lst]
        by_cases z : m = 0
        · rw [if_pos z, if_pos z]; exact (cho_t (by omega)).symm
        · rw [if_neg z, if_neg z]))
      rw [show lst m 0 = v from by
        simp only [lst, mnK]
        rw [hv]
        by_cases z : m = 0
        · rw [if_pos z]
        · rw [if_neg z]] at st
      exact st
  refine g_M_laysPeace_0 (by omega) ?_
  have o := outer (R 0 1).toNat g (vr 9999) (vr 9999) (vr 9999) 1000000 (by omega) (fun _ _ => rfl) (fun r l q1 q2 q3 => by omega) (by
    by_cases z : (R 0 1).toNat = 0
    · rw [if_pos z]; exact (cho_f (by omega)).symm
    · rw [if_neg z])
  rw [show (((R 0 1).toNat : Nat) : Int) - 1 = g 104 1 - 1 by omega] at o
  exact o
theorem A_peace {n : Nat} {h : HP} {x1 x2 : Int} (hR : Rel n h) : Agree n h i_C_peace i_M_peace [vr 0, vi x1, vi x2] [vr 103, vi x1, vi x2, vr 9999] := by
  have s := hR.2.2.2.2.2.1
  have W := s.2.1
  have dd := cdim (rfl : rmC h 10 = rmC h 10)
  have w := W.1
  by_cases c : (0 ≤ x1 ∧ x1 < o_shl 1 (h 10 3)) ∧ (0 ≤ x2 ∧ x2 < o_shl 1 (h 10 3))
  · have rg := leP_rg (R := rmC h 10) (a := x1) (b := x2)
    refine ag_scr (v := vi (if leP (rmC h 10) x1 x2 < 1000000 then rmC h 10 0 1 + leP (rmC h 10) x1 x2 else -1)) (st := if leP (rmC h 10) x1 x2 < 1000000 then 0 else 6) hR (fun Q k => ?_) (fun g Q e gk k => ?_)
    · refine g_C_peace_0 (fun q => absurd c.1 q) (fun _ _ => ?_) (fun _ q => absurd c.2 q)
      refine c_Bo_leastChalk isF_10 rfl W (fun h' f J => ?_)
      have k := k h' (fun k hk => f k (by omega))
      by_cases z : leP (rmC h 10) x1 x2 < 1000000
      · rw [if_pos z, if_pos z] at k
        rw [if_pos z]
        refine g_C_peace_42 (by omega) ?_
        rw [if_neg (by omega)]; exact k
      · rw [if_neg z, if_neg z] at k
        rw [if_neg z]
        refine g_C_peace_42 (by omega) ?_
        rw [if_pos (by omega)]; exact k
    · have d := mdim e
      have c' : (0 ≤ x1 ∧ x1 < o_shl 1 (g 104 2)) ∧ (0 ≤ x2 ∧ x2 < o_shl 1 (g 104 2)) := by rw [d.2.2.2.1]; exact c
      refine g_M_peace_0 (g_M_areSets_0 (fun q => by omega) (fun _ q => by omega) (fun _ _ q => by omega) (fun _ _ _ q => by omega) (fun _ _ _ _ => ?_))
      refine g_M_peace_6 (fun _ => ?_) (fun q => absurd q (by decide))
      refine c_M_laysPeace e W (fun g' f J => ?_)
      have k := k g' (ScM_0 (fun k hk => f k (by omega)))
      have d1 := mdim ((rmM_congr (f 104 (by decide))).trans e)
      refine g_M_peace_21 (fun q => by omega) (fun q => ?_) (fun q => ?_)
      · rw [if_pos q, if_pos q] at k; rw [d1.2.1, Int.add_comm]; exact k
      · rw [if_neg q, if_neg q] at k; exact k
  · refine ag_act0 (v := vi (-1)) (st := 1) hR (fun Q k => ?_) (fun g Q e gk k => ?_)
    · exact g_C_peace_0 (fun _ => k) (fun q1 q2 => absurd ⟨q1, q2⟩ c) (fun _ _ => k)
    · have d := mdim e
      have c' : ¬ ((0 ≤ x1 ∧ x1 < o_shl 1 (g 104 2)) ∧ (0 ≤ x2 ∧ x2 < o_shl 1 (g 104 2))) := by rw [d.2.2.2.1]; exact c
      have fin : Wp true i_M_peace 6 [vr 103, vi x1, vi x2, vr 9999] [vi 0] g Q := g_M_peace_6 (fun q => absurd rfl q) (fun _ => k)
      exact g_M_peace_0 (g_M_areSets_0 (fun _ => fin) (fun _ _ => fin) (fun _ _ _ => fin) (fun _ _ _ _ => fin) (fun q1 q2 q3 q4 => absurd ⟨⟨by omega, by omega⟩, by omega, by omega⟩ c'))
