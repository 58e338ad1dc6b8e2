def MR (g0 T R Z g : HP) : Prop :=
  rmM g 0 = R ∧ (∀ k, k ≠ 103 → k ≠ 104 → k ≠ 120 → k ≠ 121 → g k = g0 k) ∧ (∀ i, 75 ≤ i → g 104 i = g0 104 i) ∧ g 104 7 = g0 104 7 ∧ (∀ i, i ≠ 33 → i ≠ 34 → g 103 i = g0 103 i) ∧ g 103 34 = Z 0 1 ∧ g 103 33 = Z 0 6 ∧ g 121 0 = Z 0 2 ∧ g 121 1 = Z 0 3 ∧ g 121 2 = Z 0 4 ∧ g 121 3 = Z 0 5 ∧
  ∀ o : Nat, T 0 o = 16 → (o : Int) < Z 0 0 → Z 0 0 ≤ T 4 o → 0 ≤ g 120 o ∧ g 120 o ≤ 98 ∧ (¬ T 4 o = (o : Int) + 1 → g 120 o = Z 1 o)
theorem gw_M_behindEnds_95 {Q : PQ} {h : HP} {x1 x2 x3 s1 s2 s3 : Int} (o2 : 0 ≤ s1 ∧ s1 < 80) (o3 : -2147483648 ≤ x2 + 1 ∧ x2 + 1 ≤ 2147483647)
    (k4 : Wp true i_M_behindEnds 2 [vr 103, vi x1, vi (x2 + 1), vi x3, vi 0] [] (hs h 120 s1.toNat (w32 (s2 - s3))) Q) :
    Wp true i_M_behindEnds 95 [vr 103, vi x1, vi x2, vi x3, vi 0] [vi s3, vi s2, vi s1, vr 120] h Q := by
  refine r_isubw f_367_95 ?_
  refine r_iastore (n := 80) f_367_96 ⟨rfl, rfl⟩ o2 ?_
  refine r_iload (v := 0) f_367_97 rfl ?_
  refine r_br (t := 108) f_367_99 rfl cb_eq (fun c1 => ?_) (fun c1 => absurd rfl c1)
  refine r_iload_n (v := x2) f_367_108 rfl ?_
  refine r_iconst f_367_109 (by decide) ?_
  refine r_iadd (u := x2 + 1) f_367_110 rfl o3 ?_
  refine r_istore_n (ls' := [vr 103, vi x1, vi (x2 + 1), vi x3, vi 0]) f_367_111 (Nat.le_of_ble_eq_true rfl) rfl ?_
  refine r_goto (t := 2) f_367_112 rfl ?_
  exact k4
theorem tkM_0 {g0 g T : HP} {n : Int} (eT : tkM g0 0 = T) (en : g0 104 7 = n) (n60 : n ≤ 60) (f : ∀ i, 75 ≤ i → g 104 i = g0 104 i) (f7 : g 104 7 = g0 104 7) : tkM g 0 = T := by
  rw [← eT]
  exact tkM_congr f7 (by show g0 104 (0 + 7) ≤ 60; rw [show 0 + 7 = 7 from rfl, en]; exact n60) (fun i hi _ => f i (by omega))
theorem c_M_behind {Q : PQ} {g0 T R0 : HP} {n : Int} (eT : tkM g0 0 = T) (en : g0 104 7 = n) (hT : WT T n R0) :
    ∀ (k : Nat) (s : HP × HP) (g : HP) (x1 : Int) (j3 j4 : AV), PI T n R0 s.1 s.2 → MR g0 T s.1 s.2 g → hlP T n (runP T n k s).2 → g 121 4 = 0 →
      (∀ (k' : Nat) (s' : HP × HP) (g' : HP), k' ≤ k → runP T n k' s' = runP T n k s → (n ≤ s'.2 0 0 ∨ ¬ T 0 (s'.2 0 0).toNat = 17) → PI T n R0 s'.1 s'.2 → MR g0 T s'.1 s'.2 g' → g' 121 4 = 0 → Q (some (vi (s'.2 0 0))) g') →
      Wp true i_M_behindEnds 2 [vr 103, vi x1, vi (s.2 0 0), j3, j4] [] g Q := by
  have n60 := hT.2.1
  intro k
  induction k with
  | zero =>
    intro s g x1 j3 j4 I M hl h4 K
    have i0 := I.1
    have sz : g 104 7 = n := M.2.2.2.1.trans en
    by_cases at1 : n ≤ s.2 0 0
    · have fin := K 0 s g (Nat.le_refl _) rfl (Or.inl at1) I M h4
      exact g_M_behindEnds_2 (fun _ => fin) (fun q => by omega) (fun q => by omega) (fun q => by omega) (fun q => by omega) (fun q => by omega) (fun q => by omega) (fun q => by omega) (fun q => by omega) (fun q => by omega) (fun q => by omega) (fun q => by omega) (fun q => by omega) (fun q => by omega)
    · have hl' : hlP T n s.2 := hl
      rcases hl' with q | q
      · exact absurd q at1
      · obtain ⟨e, ee⟩ : ∃ e : Nat, s.2 0 0 = e := ⟨(s.2 0 0).toNat, by omega⟩
        have es : (s.2 0 0).toNat = e := by omega
        have eT' := tkM_0 eT en n60 M.2.2.1 M.2.2.2.1
        have fin := K 0 s g (Nat.le_refl _) rfl (Or.inr q.1) I M h4
        have a0 : (75 + 7 * (e : Int)).toNat = 75 + 7 * e + 0 := by omega
        have b0 : g 104 (75 + 7 * (s.2 0 0)).toNat = T 0 e := by rw [ee, a0]; exact tk_M eT' (by omega) (by decide)
        rw [es] at q
        refine g_M_behindEnds_2 (fun _ => fin) (fun _ => by omega) (fun _ => by omega) (fun _ => by omega) (fun _ _ => fin) (fun _ z => ?_) (fun _ z => ?_) (fun _ z => ?_) (fun _ z => ?_) (fun _ z => ?_) (fun _ z => ?_) (fun _ z => ?_) (fun _ z => ?_) (fun _ z => ?_)
        all_goals (rw [b0] at z; exact absurd z q.1)
  | succ k ih =>
    intro s g x1 j3 j4 I M hl h4 K
    have i0 := I.1
    have sz : g 104 7 = n := M.2.2.2.1.trans en
    by_cases at1 : n ≤ s.2 0 0
    · have fin := K (k + 1) s g (Nat.le_refl _) rfl (Or.inl at1) I M h4
      exact g_M_behindEnds_2 (fun _ => fin) (fun q => by omega) (fun q => by omega) (fun q => by omega) (fun q => by omega) (fun q => by omega) (fun q => by omega) (fun q => by omega) (fun q => by omega) (fun q => by omega) (fun q => by omega) (fun q => by omega) (fun q => by omega) (fun q => by omega)
    obtain ⟨e, ee⟩ : ∃ e : Nat, s.2 0 0 = e := ⟨(s.2 0 0).toNat, by omega⟩
    have es : (s.2 0 0).toNat = e := by omega
    have a0 : (75 + 7 * (e : Int)).toNat = 75 + 7 * e + 0 := by omega
    have a4 : (75 + 7 * (e : Int) + 4).toNat = 75 + 7 * e + 4 := by omega
    by_cases y : T 0 e = 17
    · have nh : ¬ hlP T n s.2 := by
        rintro (q | q)
        · omega
        · rw [es] at q; exact q.1 y
      have tn : tnP T n s = (s.1, enZ T s.2 e) := by unfold tnP; rw [es, if_pos y]
      have I' := PI_end hT I ee (by omega) y
      rw [runP_s nh, tn] at hl K
      have t := WT_en hT (by omega) y
      have z0 : ∀ i, i ≠ 0 → enZ T s.2 e 0 i = s.2 0 i := fun i hi => by
        unfold enZ
        rw [if_neg (fun q => hi q.2), if_neg (fun q => by omega)]
      have z00 : enZ T s.2 e 0 0 = cho (agT T s.2 e) (T 4 e + 1) ((e : Int) + 1) := if_pos ⟨rfl, rfl⟩
      have z1 : ∀ i, i ≠ (T 4 e).toNat → enZ T s.2 e 1 i = s.2 1 i := fun i hi => by
        unfold enZ
        rw [if_neg (fun q => absurd q.1 (by decide)), if_neg (fun q => hi q.2)]
      have z11 : enZ T s.2 e 1 (T 4 e).toNat = cho (agT T s.2 e) (s.2 1 (T 4 e).toNat - 1) (s.2 1 (T 4 e).toNat) := by
        unfold enZ
        rw [if_neg (fun q => absurd q.1 (by decide)), if_pos ⟨rfl, rfl⟩]
      obtain ⟨b, eb⟩ : ∃ b : Nat, T 4 e = b := ⟨(T 4 e).toNat, by omega⟩
      have ebn : (T 4 e).toNat = b := by omega
      have tb := t.2.2.1
      rw [ebn] at tb
      have a0b : (75 + 7 * (b : Int)).toNat = 75 + 7 * b + 0 := by omega
      have bi' : ((b : Int)).toNat = b := Int.toNat_natCast _
      have Kn : ∀ (k' : Nat) (s' : HP × HP) (g' : HP), k' ≤ k → runP T n k' s' = runP T n k (s.1, enZ T s.2 e) → (n ≤ s'.2 0 0 ∨ ¬ T 0 (s'.2 0 0).toNat = 17) → PI T n R0 s'.1 s'.2 → MR g0 T s'.1 s'.2 g' → g' 121 4 = 0 → Q (some (vi (s'.2 0 0))) g' := fun k' s' g' hk => K k' s' g' (by omega)
      have next : ∀ (g' : HP) (x1 : Int) (j3 j4 : AV), rmM g' 0 = s.1 → (∀ k, k ≠ 103 → k ≠ 104 → k ≠ 120 → k ≠ 121 → g' k = g0 k) → (∀ i, 75 ≤ i → g' 104 i = g0 104 i) → g' 104 7 = g0 104 7 → g' 103 = g 103 → g' 121 = g 121 → (∀ o : Nat, T 0 o = 16 → (o : Int) < enZ T s.2 e 0 0 → enZ T s.2 e 0 0 ≤ T 4 o → 0 ≤ g' 120 o ∧ g' 120 o ≤ 98 ∧ (¬ T 4 o = (o : Int) + 1 → g' 120 o = enZ T s.2 e 1 o)) → Wp true i_M_behindEnds 2 [vr 103, vi x1, vi (enZ T s.2 e 0 0), j3, j4] [] g' Q := by
        intro g' x1 j3 j4 r1 r2 r3 r4 r5 r6 act
        obtain ⟨m1, m2, m3, m4, m5, m6, m7, m8, m9, m10, m11, m12⟩ := M
        refine ih (s.1, enZ T s.2 e) g' x1 j3 j4 I' ⟨r1, r2, r3, r4, fun i i1 i2 => by rw [r5]; exact m5 i i1 i2, ?_, ?_, ?_, ?_, ?_, ?_, act⟩ hl (by rw [r6]; exact h4) Kn
        · rw [r5]; show _ = enZ T s.2 e 0 1; rw [z0 1 (by decide)]; exact m6
        · rw [r5]; show _ = enZ T s.2 e 0 6; rw [z0 6 (by decide)]; exact m7
        · rw [r6]; show _ = enZ T s.2 e 0 2; rw [z0 2 (by decide)]; exact m8
        · rw [r6]; show _ = enZ T s.2 e 0 3; rw [z0 3 (by decide)]; exact m9
        · rw [r6]; show _ = enZ T s.2 e 0 4; rw [z0 4 (by decide)]; exact m10
        · rw [r6]; show _ = enZ T s.2 e 0 5; rw [z0 5 (by decide)]; exact m11
      have spin : ∀ (m : Nat) (g1 : HP) (x1 : Int) (j3 j4 : AV), rmM g1 0 = s.1 → (∀ k, k ≠ 103 → k ≠ 104 → k ≠ 120 → k ≠ 121 → g1 k = g0 k) → g1 104 = g 104 → g1 103 = g 103 → g1 121 = g 121 → (∀ o, o ≠ b → g1 120 o = g 120 o) → (T 0 b = 16 → g1 120 b = m ∧ m ≤ 98 ∧ (¬ T 4 b = (b : Int) + 1 → g1 120 b = s.2 1 b)) → Wp true i_M_behindEnds 2 [vr 103, vi x1, vi (e : Int), j3, j4] [] g1 Q := by
        intro m
        induction m with
        | zero =>
          intro g1 x1 j3 j4 r1 r2 r4 r5 r6 ro rb
          have eT1 := tkM_0 (g := g1) eT en n60 (fun i hi => by rw [r4]; exact M.2.2.1 i hi) (by rw [r4]; exact M.2.2.2.1)
          have sz1 : g1 104 7 = n := by rw [r4]; exact sz
          have b0 : g1 104 (75 + 7 * (e : Int)).toNat = T 0 e := by rw [a0]; exact tk_M eT1 (by omega) (by decide)
          have b4 : g1 104 (75 + 7 * (e : Int) + 4).toNat = (b : Int) := by rw [a4, tk_M eT1 (by omega) (by decide)]; exact eb
          have bb : g1 104 (75 + 7 * (b : Int)).toNat = T 0 b := by rw [a0b]; exact tk_M eT1 (by omega) (by decide)
          have na : ¬ agT T s.2 e := by
            intro a
            have a1 := a.1
            have a2 := a.2
            rw [ebn] at a1 a2
            have q := rb a1
            have ib := I.2.2.2.2.2.2.2.2.2.2 b a1 (by omega) (by omega)
            by_cases z : T 4 b = (b : Int) + 1
            · have := ib.2.2 z; omega
            · have := q.2.2 z; omega
          have e0 : enZ T s.2 e 0 0 = (e : Int) + 1 := by rw [z00, cho_f na]
          have same : hs g1 120 b (g1 120 b - 0) = g1 := by rw [Int.sub_zero]; exact hs_id
          have go76 : ∀ j4, (-2147483648 ≤ g1 120 b ∧ g1 120 b ≤ 2147483647) → Wp true i_M_behindEnds 76 [vr 103, vi x1, vi (e : Int), vi (b : Int), j4] [vi 0] g1 Q := by
            intro j4 rg
            refine g_M_behindEnds_76 (by omega) (fun _ => ?_) (fun z => absurd rfl z)
            rw [bi']
            refine g_M_behindEnds_95 (by omega) (by omega) (fun _ => by omega) (fun _ => ?_) (fun z => absurd rfl z) (fun z => absurd rfl z)
            rw [bi', same]
            have nx := next g1 x1 (vi (b : Int)) (vi 0) r1 r2 (fun i hi => by rw [r4]; exact M.2.2.1 i hi) (by rw [r4]; exact M.2.2.2.1) r5 r6 (fun o ho h1 h2 => ?_)
            · rw [e0] at nx; exact nx
            · by_cases z : o = b
              · subst z
                rw [e0] at h2; omega
              · have a := act_en hT (by omega) y ho (by omega) h1 h2
                rw [ro o z, z1 o (by omega)]
                exact M.2.2.2.2.2.2.2.2.2.2.2 o ho (by omega) (by omega)
          by_cases l16 : T 0 b = 16
          · have q := rb l16
            refine g_M_behindEnds_2 (fun z => by omega) (fun _ => by omega) (fun _ => by omega) (fun _ => by omega) (fun _ z => ?_) (fun _ _ => by omega) (fun _ _ => by omega) (fun _ _ => by rw [b4]; omega) (fun _ _ => by rw [b4]; omega) (fun _ _ => by rw [b4]; omega) (fun _ _ z => ?_) (fun _ _ _ => by rw [b4]; omega) (fun _ _ _ _ => ?_) (fun _ _ _ z => ?_)
            · rw [b0] at z; exact absurd y z
            · rw [b4, bb] at z; exact absurd l16 z
            · rw [b4]; exact go76 _ (by omega)
            · rw [b4, bi'] at z; omega
          · have rgb : Wp true i_M_behindEnds 2 [vr 103, vi x1, vi (e : Int), j3, j4] [] g1 Q := by
              refine g_M_behindEnds_2 (fun z => by omega) (fun _ => by omega) (fun _ => by omega) (fun _ => by omega) (fun _ z => ?_) (fun _ _ => by omega) (fun _ _ => by omega) (fun _ _ => by rw [b4]; omega) (fun _ _ => by rw [b4]; omega) (fun _ _ => by rw [b4]; omega) (fun _ _ z => ?_) (fun _ _ _ => by rw [b4]; omega) (fun _ _ z => ?_) (fun _ _ z => ?_)
              · rw [b0] at z; exact absurd y z
              · rw [b4]
                refine g_M_behindEnds_76 (by omega) (fun _ => ?_) (fun z => absurd rfl z)
                rw [bi']
                refine gw_M_behindEnds_95 (by omega) (by omega) ?_
                rw [bi']
                have n120 : ∀ c, c ≠ 120 → hs g1 120 b (w32 (g1 120 b - 0)) c = g1 c := fun c hc => hs_ne hc
                have nx := next (hs g1 120 b (w32 (g1 120 b - 0))) x1 (vi (b : Int)) (vi 0) ((rmM_congr (n120 104 (by decide))).trans r1) (fun c k1 k2 k3 k4 => (n120 c k3).trans (r2 c k1 k2 k3 k4)) (fun i hi => by rw [n120 104 (by decide), r4]; exact M.2.2.1 i hi) (by rw [n120 104 (by decide), r4]; exact M.2.2.2.1) ((n120 103 (by decide)).trans r5) ((n120 121 (by decide)).trans r6) (fun o ho h1 h2 => ?_)
                · rw [e0] at nx; exact nx
                · have zb : o ≠ b := fun q => by subst q; exact l16 ho
                  have a := act_en hT (by omega) y ho (by omega) h1 h2
                  rw [hs_o (Or.inr zb), ro o zb, z1 o (by omega)]
                  exact M.2.2.2.2.2.2.2.2.2.2.2 o ho (by omega) (by omega)
              · rw [b4, bb] at z; exact absurd z l16
              · rw [b4, bb] at z; exact absurd z l16
            exact rgb
        | succ m ihm =>
          intro g1 x1 j3 j4 r1 r2 r4 r5 r6 ro rb
          by_cases l16 : T 0 b = 16
          · have q := rb l16
            have eT1 := tkM_0 (g := g1) eT en n60 (fun i hi => by rw [r4]; exact M.2.2.1 i hi) (by rw [r4]; exact M.2.2.2.1)
            have sz1 : g1 104 7 = n := by rw [r4]; exact sz
            have b0 : g1 104 (75 + 7 * (e : Int)).toNat = T 0 e := by rw [a0]; exact tk_M eT1 (by omega) (by decide)
            have b4 : g1 104 (75 + 7 * (e : Int) + 4).toNat = (b : Int) := by rw [a4, tk_M eT1 (by omega) (by decide)]; exact eb
            have bb : g1 104 (75 + 7 * (b : Int)).toNat = T 0 b := by rw [a0b]; exact tk_M eT1 (by omega) (by decide)
            have ib := I.2.2.2.2.2.2.2.2.2.2 b l16 (by omega) (by omega)
            refine g_M_behindEnds_2 (fun z => by omega) (fun _ => by omega) (fun _ => by omega) (fun _ => by omega) (fun _ z => ?_) (fun _ _ => by omega) (fun _ _ => by omega) (fun _ _ => by rw [b4]; omega) (fun _ _ => by rw [b4]; omega) (fun _ _ => by rw [b4]; omega) (fun _ _ z => ?_) (fun _ _ _ => by rw [b4]; omega) (fun _ _ _ z => ?_) (fun _ _ _ _ => ?_)
            · rw [b0] at z; exact absurd y z
            · rw [b4, bb] at z; exact absurd l16 z
            · rw [b4, bi'] at z; omega
            · rw [b4]
              refine g_M_behindEnds_76 (by omega) (fun z => absurd z (by decide)) (fun _ => ?_)
              rw [bi']
              refine g_M_behindEnds_95 (by omega) (by omega) (fun z => absurd z (by decide)) (fun z => absurd z (by decide)) (fun _ => by omega) (fun _ => ?_)
              rw [bi']
              have n120 : ∀ c, c ≠ 120 → hs g1 120 b (g1 120 b - 1) c = g1 c := fun c hc => hs_ne hc
              by_cases z : T 4 b = (b : Int) + 1
              · rw [show (b : Int) + 1 = (e : Int) by omega]
                exact ihm _ x1 _ _ ((rmM_congr (n120 104 (by decide))).trans r1) (fun c k1 k2 k3 k4 => (n120 c k3).trans (r2 c k1 k2 k3 k4)) ((n120 104 (by decide)).trans r4) ((n120 103 (by decide)).trans r5) ((n120 121 (by decide)).trans r6) (fun o ho => by rw [hs_o (Or.inr ho)]; exact ro o ho) (fun _ => ⟨by rw [hs_s]; omega, by omega, fun q => absurd z q⟩)
              · have ag : agT T s.2 e := ⟨by rw [ebn]; exact l16, by rw [ebn]; have := q.2.2 z; omega⟩
                have e0 : enZ T s.2 e 0 0 = (b : Int) + 1 := by rw [z00, cho_t ag, eb]
                have nx := next (hs g1 120 b (g1 120 b - 1)) x1 (vi (b : Int)) (vi 1) ((rmM_congr (n120 104 (by decide))).trans r1) (fun c k1 k2 k3 k4 => (n120 c k3).trans (r2 c k1 k2 k3 k4)) (fun i hi => by rw [n120 104 (by decide), r4]; exact M.2.2.1 i hi) (by rw [n120 104 (by decide), r4]; exact M.2.2.2.1) ((n120 103 (by decide)).trans r5) ((n120 121 (by decide)).trans r6) (fun o ho h1 h2 => ?_)
                · rw [e0] at nx; exact nx
                · by_cases zo : o = b
                  · subst zo
                    rw [hs_s]
                    refine ⟨by omega, by omega, fun _ => ?_⟩
                    rw [← ebn, z11, cho_t ag, ebn]
                    have := q.2.2 z; omega
                  · have a := act_en hT (by omega) y ho (by omega) h1 h2
                    rw [hs_o (Or.inr zo), ro o zo, z1 o (by omega)]
                    exact M.2.2.2.2.2.2.2.2.2.2.2 o ho (by omega) (by omega)
          · exact ihm g1 x1 j3 j4 r1 r2 r4 r5 r6 ro (fun q => absurd q l16)
      rw [ee]
      refine spin (g 120 b).toNat g x1 j3 j4 M.1 M.2.1 rfl rfl rfl (fun _ _ => rfl) (fun l16 => ?_)
      have mb := M.2.2.2.2.2.2.2.2.2.2.2 b l16 (by omega) (by omega)
      exact ⟨by omega, by omega, mb.2.2⟩
    · have eT' := tkM_0 eT en n60 M.2.2.1 M.2.2.2.1
      have fin := K (k + 1) s g (Nat.le_refl _) rfl (Or.inr (by rw [es]; exact y)) I M h4
      have b0 : g 104 (75 + 7 * (s.2 0 0)).toNat = T 0 e := by rw [ee, a0]; exact tk_M eT' (by omega) (by decide)
      refine g_M_behindEnds_2 (fun _ => fin) (fun _ => by omega) (fun _ => by omega) (fun _ => by omega) (fun _ _ => fin) (fun _ z => ?_) (fun _ z => ?_) (fun _ z => ?_) (fun _ z => ?_) (fun _ z => ?_) (fun _ z => ?_) (fun _ z => ?_) (fun _ z => ?_) (fun _ z => ?_)
      all_goals (rw [b0] at z; exact absurd z y)
