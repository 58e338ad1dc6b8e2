theorem lives_M {Q : PQ} {g0 T R0 : HP} {n x1 : Int} (eT : tkM g0 0 = T) (en : g0 104 7 = n) (hT : WT T n R0) (hb : (0 ≤ R0 0 4 ∧ R0 0 4 ≤ 1900000000) ∧ (0 ≤ R0 0 5 ∧ R0 0 5 ≤ 1900000000) ∧ (0 ≤ R0 0 6 ∧ R0 0 6 ≤ 1900000000)) :
    ∀ (k : Nat) (s : HP × HP) (g : HP) (j3 : AV), PI T n R0 s.1 s.2 → MR g0 T s.1 s.2 g → hlP T n (runP T n k s).2 → g 121 4 = 0 → (n ≤ s.2 0 0 ∨ ¬ T 0 (s.2 0 0).toNat = 17) →
      (∀ g', MR g0 T (runP T n k s).1 (runP T n k s).2 g' → g' 121 4 = (if n ≤ (runP T n k s).2 0 0 then 0 else 1) → Q none g') → Wp true i_M_lives 32 [vr 103, vi x1, vi (s.2 0 0), j3] [] g Q := by
  have n60 := hT.2.1
  intro k
  induction k using Nat.strongRecOn with
  | ind k ih =>
    intro s g j3 I M hl h4 ne K
    have i0 := I.1
    have sz : g 104 7 = n := M.2.2.2.1.trans en
    by_cases at1 : n ≤ s.2 0 0
    · have hs' : hlP T n s.2 := Or.inl at1
      rw [runP_h hs'] at K
      have fin := K g M (by rw [if_pos at1]; exact h4)
      exact g_M_lives_32 (fun _ => fin) (fun q => by omega) (fun q => by omega) (fun q => by omega) (fun q => by omega) (fun q => by omega) (fun q => by omega) (fun q => by omega)
    obtain ⟨e, ee⟩ : ∃ e : Nat, s.2 0 0 = e := ⟨(s.2 0 0).toNat, by omega⟩
    have es : (s.2 0 0).toNat = e := by omega
    have y : ¬ T 0 e = 17 := by
      rcases ne with q | q
      · exact absurd q at1
      · rw [es] at q; exact q
    have eT' := tkM_0 eT en n60 M.2.2.1 M.2.2.2.1
    have a0 : (75 + 7 * (e : Int)).toNat = 75 + 7 * e + 0 := by omega
    obtain ⟨m1, m2, m3, m4, m5, m6, m7, m8, m9, m10, m11, m12⟩ := M
    obtain ⟨-, iW, iS, i1, i2, i3, i4, i5, i6, i7, i8⟩ := id I
    rw [ee]
    by_cases dn : 300 ≤ s.2 0 1
    · have hs' : hlP T n s.2 := Or.inr ⟨by rw [es]; exact y, dn⟩
      rw [runP_h hs'] at K
      have fin := K (hs g 121 4 1) ⟨(rmM_congr (hs_ne (by decide))).trans m1, fun c k1 k2 k3 k4 => by rw [hs_ne k4]; exact m2 c k1 k2 k3 k4, fun i hi => by rw [hs_ne (by decide)]; exact m3 i hi, by rw [hs_ne (by decide)]; exact m4, fun i i1 i2 => by rw [hs_ne (by decide)]; exact m5 i i1 i2, by rw [hs_ne (by decide)]; exact m6, by rw [hs_ne (by decide)]; exact m7, by rw [hs_o (Or.inr (by decide))]; exact m8, by rw [hs_o (Or.inr (by decide))]; exact m9, by rw [hs_o (Or.inr (by decide))]; exact m10, by rw [hs_o (Or.inr (by decide))]; exact m11, fun o ho h1 h2 => by rw [hs_ne (by decide)]; exact m12 o ho h1 h2⟩ (by rw [hs_s, if_neg at1])
      exact g_M_lives_32 (fun q => by omega) (fun _ q => by omega) (fun _ q => by omega) (fun _ q => by omega) (fun _ q => by omega) (fun _ q => by omega) (fun _ q => by omega) (fun _ _ => fin)
    have nh : ¬ hlP T n s.2 := by
      rintro (q | q)
      · omega
      · exact dn q.2
    obtain ⟨k0, rfl⟩ : ∃ k0, k = k0 + 1 := by
      cases k with
      | zero => exact absurd hl nh
      | succ k0 => exact ⟨k0, rfl⟩
    have tn : tnP T n s = (acR T s.1 (s.2 0 6) e, stZ T s.1 s.2 n e) := by unfold tnP; rw [es, if_neg y]
    rw [runP_s nh, tn] at hl K
    have I' := PI_step hT I ee (by omega) (by omega)
    have hT' : WT T n s.1 := WT_congr hT iS.1 iS.2.1 iS.2.2
    have b0 : g 104 (75 + 7 * (e : Int)).toNat = T 0 e := by rw [a0]; exact tk_M eT' (by omega) (by decide)
    have s0 : stZ T s.1 s.2 n e 0 0 = nxT T s.1 n e := rfl
    -- the state behind the step
    have aft : ∀ g3 : HP, rmM g3 0 = acR T s.1 (s.2 0 6) e → (∀ c, c ≠ 103 → c ≠ 104 → c ≠ 120 → c ≠ 121 → g3 c = g0 c) → (∀ i, 75 ≤ i → g3 104 i = g0 104 i) → g3 104 7 = g0 104 7 → (∀ i, i ≠ 33 → i ≠ 34 → g3 103 i = g0 103 i) → g3 103 34 = s.2 0 1 + 1 → g3 103 33 = acD T s.1 (s.2 0 6) e → g3 121 0 = s.2 0 2 + (1 - acK T s.1 (s.2 0 6) e) → g3 121 1 = s.2 0 3 + (if T 1 e = 0 then acM T s.1 (s.2 0 6) e else 0) → g3 121 2 = s.2 0 4 + (if T 1 e = 0 then 0 else acM T s.1 (s.2 0 6) e) → g3 121 3 = s.2 0 5 + (if T 0 e = 10 then 1 else 0) → (∀ i, g3 120 i = (if i = e ∧ T 0 e = 16 then T 1 e - 1 else g 120 i)) → MR g0 T (acR T s.1 (s.2 0 6) e) (stZ T s.1 s.2 n e) g3 := by
      intro g3 q1 q2 q3 q4 q5 q6 q7 q8 q9 q10 q11 q12
      refine ⟨q1, q2, q3, q4, q5, q6, q7, q8, q9, q10, q11, fun o ho h1 h2 => ?_⟩
      rw [q12 o]
      by_cases z : o = e
      · subst z
        have e1 : stZ T s.1 s.2 n o 1 o = (if T 4 o = (o : Int) + 1 then 0 else T 1 o - 1) := by
          show (if (1 : Nat) = 0 then _ else if (1 : Nat) = 1 ∧ o = o ∧ T 0 o = 16 then (if T 4 o = (o : Int) + 1 then 0 else T 1 o - 1) else s.2 1 o) = _
          rw [if_neg (by decide), if_pos ⟨rfl, rfl, ho⟩]
        have t := hT.2.2.1 o (by omega)
        have t1 : 1 ≤ T 1 o ∧ T 1 o ≤ 99 := by
          rcases t with t | t | t | t | t | t | t | t | t <;> first | omega | exact ⟨t.2.1, t.2.2.1⟩
        rw [e1, if_pos ⟨rfl, ho⟩]
        exact ⟨by omega, by omega, fun q => by rw [if_neg q]⟩
      · have e1 : stZ T s.1 s.2 n e 1 o = s.2 1 o := by
          show (if (1 : Nat) = 0 then _ else if (1 : Nat) = 1 ∧ o = e ∧ T 0 e = 16 then _ else s.2 1 o) = s.2 1 o
          rw [if_neg (by decide), if_neg (fun q => z q.2.1)]
        have a := act_st hT (by omega) ho z h1 h2
        rw [e1, if_neg (fun x => z x.1)]
        exact m12 o ho (by omega) (by omega)
    have g34 : ∀ i, i ≠ 34 → hs g 103 34 (g 103 34 + 1) 103 i = g 103 i := fun i hi => hs_o (Or.inr hi)
    have gne : ∀ c, c ≠ 103 → hs g 103 34 (g 103 34 + 1) c = g c := fun c hc => hs_ne hc
    by_cases c18 : T 0 e = 18
    · obtain ⟨d1, d2, d3, d4⟩ := ac_idle (T := T) (R := s.1) (z := s.2 0 6) (e := e) (by omega)
      have M' := aft (hs g 103 34 (g 103 34 + 1)) (by rw [d1]; exact (rmM_congr (gne 104 (by decide))).trans m1) (fun c k1 k2 k3 k4 => by rw [gne c k1]; exact m2 c k1 k2 k3 k4) (fun i hi => by rw [gne 104 (by decide)]; exact m3 i hi) (by rw [gne 104 (by decide)]; exact m4) (fun i i1 i2 => by rw [g34 i i2]; exact m5 i i1 i2) (by rw [hs_s, m6]) (by rw [g34 33 (by decide), d4]; exact m7) (by rw [gne 121 (by decide), d3, m8]; omega) (by rw [gne 121 (by decide), d2, m9]; split <;> omega) (by rw [gne 121 (by decide), d2, m10]; split <;> omega) (by rw [gne 121 (by decide), if_neg (by omega), m11]; omega) (fun i => by rw [gne 120 (by decide), if_neg (by omega)])
      have nxn : nxT T s.1 n e = n := if_pos c18
      have hh : hlP T n (stZ T s.1 s.2 n e) := Or.inl (by rw [s0, nxn]; exact Int.le_refl _)
      rw [runP_h (s := (acR T s.1 (s.2 0 6) e, stZ T s.1 s.2 n e)) hh] at K
      have fin := K _ M' (by rw [gne 121 (by decide), h4]; show (0 : Int) = (if n ≤ stZ T s.1 s.2 n e 0 0 then 0 else 1); rw [s0, nxn, if_pos (Int.le_refl _)])
      refine g_M_lives_32 (fun q => by omega) (fun _ _ => by omega) (fun _ _ => by omega) (fun _ _ => by omega) (fun _ _ => by omega) (fun _ _ q => ?_) (fun _ _ _ => fin) (fun _ q => by omega)
      rw [b0] at q; exact absurd c18 q
    refine g_M_lives_32 (fun q => by omega) (fun _ _ => by omega) (fun _ _ => by omega) (fun _ _ => by omega) (fun _ _ => by omega) (fun _ _ _ => ?_) (fun _ _ q => ?_) (fun _ q => by omega)
    rotate_left
    · rw [b0] at q; exact absurd q c18
    have eT1 : tkM (hs g 103 34 (g 103 34 + 1)) 0 = T := tkM_0 eT en n60 (fun i hi => by rw [gne 104 (by decide)]; exact m3 i hi) (by rw [gne 104 (by decide)]; exact m4)
    refine c_M_does (n := n) ((rmM_congr (gne 104 (by decide))).trans m1) iW eT1 (by rw [gne 104 (by decide)]; exact sz) hT' (by omega) (by rw [g34 33 (by decide)]; omega) (by rw [gne 121 (by decide)]; omega) (by omega) (by omega) (fun i => ?_) (fun g2 D => ?_)
    · rw [gne 121 (by decide)]
      by_cases i00 : i = 0
      · subst i00; left; omega
      · by_cases i01 : i = 1
        · subst i01; left; omega
        · by_cases i02 : i = 2
          · subst i02; left; omega
          · right; omega
    obtain ⟨d1, d2, d3, d4, d5, d6, d7, d8, d9, d10, d11⟩ := D
    rw [g34 33 (by decide), m7] at d1 d6 d8 d9
    rw [gne 121 (by decide)] at d7 d8 d9 d10 d11
    rw [g34 33 (by decide), m7]
    have k01 := (acR_ok hT' iW (s.2 0 6) (e := e) (by omega)).2.2.2.2
    have f104 : ∀ i, 75 ≤ i → g2 104 i = g0 104 i := fun i hi => by rw [d3 i hi, gne 104 (by decide)]; exact m3 i hi
    have f7 : g2 104 7 = g0 104 7 := by rw [d4, gne 104 (by decide)]; exact m4
    have f103 : ∀ i, i ≠ 33 → i ≠ 34 → g2 103 i = g0 103 i := fun i i1 i2 => by rw [d5 i i1, g34 i i2]; exact m5 i i1 i2
    have f34 : g2 103 34 = s.2 0 1 + 1 := by rw [d5 34 (by decide), hs_s, m6]
    have f120 : g2 120 = g 120 := by rw [d2 120 (by decide) (by decide) (by decide), gne 120 (by decide)]
    have fk : ∀ c, c ≠ 103 → c ≠ 104 → c ≠ 120 → c ≠ 121 → g2 c = g0 c := fun c k1 k2 k3 k4 => by rw [d2 c k1 k2 k4, gne c k1]; exact m2 c k1 k2 k3 k4
    -- from 140 on
    have go140 : ∀ g3 : HP, MR g0 T (acR T s.1 (s.2 0 6) e) (stZ T s.1 s.2 n e) g3 → g3 121 4 = 0 → Wp true i_M_lives 140 [vr 103, vi x1, vi (e : Int), vi (75 + 7 * (e : Int))] [] g3 Q := by
      intro g3 M3 h43
      have eT3 := tkM_0 eT en n60 M3.2.2.1 M3.2.2.2.1
      have sz3 : g3 104 7 = n := M3.2.2.2.1.trans en
      have tk : ∀ k, k < 6 → g3 104 (75 + 7 * e + k) = T k e := fun k hk => tk_M eT3 (by omega) hk
      have c0 : g3 104 (75 + 7 * (e : Int)).toNat = T 0 e := by rw [a0]; exact tk 0 (by decide)
      have beh : ∀ x3, Wp true i_M_behindEnds 0 [vr 103, vi (nxT T s.1 n e), vr 9999, vr 9999, vr 9999] [] g3 (fun r h' => Wp true i_M_lives 180 [vr 103, vi x1, vi (e : Int), vi x3] (r.toList ++ []) h' Q) := by
        intro x3
        refine g_M_behindEnds_0 ?_
        have cb := c_M_behind (Q := fun r h' => Wp true i_M_lives 180 [vr 103, vi x1, vi (e : Int), vi x3] (r.toList ++ []) h' Q) eT en hT k0 (acR T s.1 (s.2 0 6) e, stZ T s.1 s.2 n e) g3 (nxT T s.1 n e) (vr 9999) (vr 9999) I' M3 hl h43 (fun k' s' g' hk er ne' I2 M2 h42 => ?_)
        · exact cb
        · refine g_M_lives_180 (ih k' (by omega) s' g' _ I2 M2 (by rw [er]; exact hl) h42 ne' (by rw [er]; exact K))
      refine g_M_lives_140 (by omega) (fun _ => by omega) (fun q => ?_) (fun q => ?_)
      · rw [c0] at q
        have b := beh (75 + 7 * (e : Int))
        rw [show nxT T s.1 n e = (e : Int) + 1 by unfold nxT; rw [if_neg c18, if_neg (by omega)]] at b
        exact b
      · rw [c0] at q
        have t := hT.2.2.1 e (by omega)
        have ct : 1519 ≤ T 0 e := by
          rcases t with t | t | t | t | t | t | t | t | t <;> omega
        have to := WT_op hT (by omega) (Or.inr ct)
        have aR : acR T s.1 (s.2 0 6) e = s.1 := (ac_idle (by omega)).1
        refine c_M_holds (n := n) (M3.1.trans aR) iW eT3 sz3 hT' (by omega) ct (fun yy => ?_) (fun yy => ?_)
        · have b := beh (75 + 7 * (e : Int))
          rw [show nxT T s.1 n e = (e : Int) + 1 by unfold nxT; rw [if_neg c18, if_pos ct, cho_t yy]] at b
          exact g_M_lives_158 (fun _ => by omega) (fun _ => b) (fun z => absurd z (by decide)) (fun z => absurd z (by decide)) (fun z => absurd z (by decide)) (fun z => absurd z (by decide))
        · have b := beh (75 + 7 * (e : Int))
          rw [show nxT T s.1 n e = T 4 e + 1 by unfold nxT; rw [if_neg c18, if_pos ct, cho_f yy]] at b
          have b4 : g3 104 (75 + 7 * (e : Int) + 4).toNat = T 4 e := by rw [show (75 + 7 * (e : Int) + 4).toNat = 75 + 7 * e + 4 by omega]; exact tk 4 (by decide)
          refine g_M_lives_158 (fun z => absurd rfl z) (fun z => absurd rfl z) (fun _ => by omega) (fun _ => by omega) (fun _ => by rw [b4]; omega) (fun _ => ?_)
          rw [b4]; exact b
    have go111 : ∀ u, u = 1 - acK T s.1 (s.2 0 6) e → Wp true i_M_lives 111 [vr 103, vi x1, vi (e : Int), vi (75 + 7 * (e : Int))] [vi u, vi (g 121 0), vi 0, vr 121] g2 Q := by
      intro u eu
      have eT2 := tkM_0 eT en n60 f104 f7
      have sz2 : g2 104 7 = n := f7.trans en
      have c0 : g2 104 (75 + 7 * (e : Int)).toNat = T 0 e := by rw [a0]; exact tk_M eT2 (by omega) (by decide)
      have c1 : g2 104 (75 + 7 * (e : Int) + 1).toNat = T 1 e := by rw [show (75 + 7 * (e : Int) + 1).toNat = 75 + 7 * e + 1 by omega]; exact tk_M eT2 (by omega) (by decide)
      have hn : ∀ c v, c ≠ 121 → hs g2 121 (0 : Int).toNat v c = g2 c := fun c v hc => hs_ne hc
      refine g_M_lives_111 (by omega) (by omega) (by omega) (fun q => ?_) (fun _ => by omega) (fun _ => by omega) (fun q => ?_) (fun _ => by omega) (fun q => ?_)
      · rw [c0] at q
        refine go140 _ (aft _ ((rmM_congr (hn 104 _ (by decide))).trans d1) (fun c k1 k2 k3 k4 => by rw [hn c _ k4]; exact fk c k1 k2 k3 k4) (fun i hi => by rw [hn 104 _ (by decide)]; exact f104 i hi) (by rw [hn 104 _ (by decide)]; exact f7) (fun i i1 i2 => by rw [hn 103 _ (by decide)]; exact f103 i i1 i2) (by rw [hn 103 _ (by decide)]; exact f34) (by rw [hn 103 _ (by decide)]; exact d6) ?_ ?_ ?_ ?_ (fun i => by rw [hn 120 _ (by decide), f120, if_neg (fun x => q x.2)])) ?_
        · show hs g2 121 0 (g 121 0 + u) 121 0 = _
          rw [hs_s]; omega
        · show hs g2 121 0 (g 121 0 + u) 121 1 = _
          rw [hs_o (Or.inr (by decide)), d8, m9]
        · show hs g2 121 0 (g 121 0 + u) 121 2 = _
          rw [hs_o (Or.inr (by decide)), d9, m10]
        · show hs g2 121 0 (g 121 0 + u) 121 3 = _
          rw [hs_o (Or.inr (by decide)), d10, m11]
        · show hs g2 121 0 (g 121 0 + u) 121 4 = _
          rw [hs_o (Or.inr (by decide)), d11]; exact h4
      · rw [c0] at q
        have t := hT.2.2.1 e (by omega)
        have t1 : 1 ≤ T 1 e ∧ T 1 e ≤ 99 := by
          rcases t with t | t | t | t | t | t | t | t | t <;> first | omega | exact ⟨t.2.1, t.2.2.1⟩
        rw [c1]; omega
      · rw [c0] at q
        rw [c1, show ((e : Int)).toNat = e from Int.toNat_natCast _]
        have hm : ∀ c v w, c ≠ 121 → c ≠ 120 → hs (hs g2 121 (0 : Int).toNat v) 120 e w c = g2 c := fun c v w hc h2 => by rw [hs_ne h2, hs_ne hc]
        refine go140 _ (aft _ ((rmM_congr (hm 104 _ _ (by decide) (by decide))).trans d1) (fun c k1 k2 k3 k4 => by rw [hm c _ _ k4 k3]; exact fk c k1 k2 k3 k4) (fun i hi => by rw [hm 104 _ _ (by decide) (by decide)]; exact f104 i hi) (by rw [hm 104 _ _ (by decide) (by decide)]; exact f7) (fun i i1 i2 => by rw [hm 103 _ _ (by decide) (by decide)]; exact f103 i i1 i2) (by rw [hm 103 _ _ (by decide) (by decide)]; exact f34) (by rw [hm 103 _ _ (by decide) (by decide)]; exact d6) ?_ ?_ ?_ ?_ (fun i => ?_)) ?_
        · show hs (hs g2 121 0 (g 121 0 + u)) 120 e (T 1 e - 1) 121 0 = _
          rw [hs_ne (by decide), hs_s]; omega
        · show hs (hs g2 121 0 (g 121 0 + u)) 120 e (T 1 e - 1) 121 1 = _
          rw [hs_ne (by decide), hs_o (Or.inr (by decide)), d8, m9]
        · show hs (hs g2 121 0 (g 121 0 + u)) 120 e (T 1 e - 1) 121 2 = _
          rw [hs_ne (by decide), hs_o (Or.inr (by decide)), d9, m10]
        · show hs (hs g2 121 0 (g 121 0 + u)) 120 e (T 1 e - 1) 121 3 = _
          rw [hs_ne (by decide), hs_o (Or.inr (by decide)), d10, m11]
        · by_cases z : i = e
          · subst z; rw [hs_s, if_pos ⟨rfl, q⟩]
          · rw [hs_o (Or.inr z), if_neg (fun x => z x.1), hs_ne (by decide), f120]
        · show hs (hs g2 121 0 (g 121 0 + u)) 120 e (T 1 e - 1) 121 4 = _
          rw [hs_ne (by decide), hs_o (Or.inr (by decide)), d11]; exact h4
    exact g_M_lives_103 (fun q => go111 1 (by omega)) (fun q => go111 0 (by omega))
/-- the start -/
def zS (x : Int) : HP := fun k i => if k = 0 ∧ i = 6 then x else 0
theorem PI_0 {T R0 : HP} {n : Int} (hT : WT T n R0) (W : WR R0) {x : Int} (hx : 0 ≤ x ∧ x ≤ 65535) : PI T n R0 R0 (zS x) := by
  have z : ∀ i, i ≠ 6 → zS x 0 i = 0 := fun i hi => if_neg (fun q => hi q.2)
  have n0 := hT.1
  refine ⟨by rw [z 0 (by decide)]; omega, W, ⟨rfl, rfl, rfl⟩, by rw [z 1 (by decide)]; omega, by rw [z 2 (by decide), z 1 (by decide)]; omega, by rw [z 3 (by decide), z 1 (by decide)]; omega, by rw [z 4 (by decide), z 1 (by decide)]; omega, by rw [z 5 (by decide), z 1 (by decide)]; omega, hx, by rw [z 3 (by decide), z 4 (by decide), z 5 (by decide)]; omega, fun o _ h => by rw [z 0 (by decide)] at h; omega⟩
theorem nd_0 {T : HP} (x : Int) : ndP T (zS x) < 1204 := by
  have z : ∀ i, i ≠ 6 → zS x 0 i = 0 := fun i hi => if_neg (fun q => hi q.2)
  unfold ndP
  rw [z 0 (by decide), z 1 (by decide)]
  have : dpT T (0 : Int).toNat = 0 := rfl
  split <;> omega
theorem c_Pl_run {Q : PQ} {h T R0 : HP} {n x : Int} (eR : rmC h 10 = R0) (W : WR R0) (eT : tkC h 26 = T) (en : h 26 2 = n) (hT : WT T n R0) (hx : 0 ≤ x ∧ x ≤ 65535) (hb : (0 ≤ R0 0 4 ∧ R0 0 4 ≤ 1900000000) ∧ (0 ≤ R0 0 5 ∧ R0 0 5 ≤ 1900000000) ∧ (0 ≤ R0 0 6 ∧ R0 0 6 ≤ 1900000000))
    (kk : ∀ h', CR h T (runP T n 1204 (R0, zS x)).1 (runP T n 1204 (R0, zS x)).2 h' → h' 99 3 = (if n ≤ (runP T n 1204 (R0, zS x)).2 0 0 then 0 else 1) → Q none h') : Wp true i_Pl_run 0 [vr 99, vr 26, vr 10, vi x, vr 9999, vr 9999] [] h Q := by
  refine g_Pl_run_0 isT_26 isF_10 ?_
  have z : ∀ i, i ≠ 6 → zS x 0 i = 0 := fun i hi => if_neg (fun q => hi q.2)
  have f : ∀ c, c ≠ 99 → c ≠ 100 → hs (hs (hs (hs (hs (hs (hs h 99 0 0) 99 1 0) 99 2 0) 99 3 0) 99 4 x) 100 0 0) 100 1 0 c = h c := fun c h1 h2 => by rw [hs_ne h2, hs_ne h2, hs_ne h1, hs_ne h1, hs_ne h1, hs_ne h1, hs_ne h1]
  have f9 : hs (hs (hs (hs (hs (hs (hs h 99 0 0) 99 1 0) 99 2 0) 99 3 0) 99 4 x) 100 0 0) 100 1 0 99 = hs (hs (hs (hs (hs h 99 0 0) 99 1 0) 99 2 0) 99 3 0) 99 4 x 99 := by rw [hs_ne (by decide), hs_ne (by decide)]
  have st := run_C (Q := Q) (x3 := x) eT en hT hb 1204 (R0, zS x) (hs (hs (hs (hs (hs (hs (hs h 99 0 0) 99 1 0) 99 2 0) 99 3 0) 99 4 x) 100 0 0) 100 1 0) 0 (by omega) (by omega) (PI_0 hT W hx) (nd_0 x) ⟨?_, fun c c1 c2 c3 c4 => f c c2 c3, f 13 (by decide) (by decide), ?_, ?_, ?_, ?_, fun i hi => ?_, ?_, ?_, fun o _ h1 => ?_⟩ ?_ kk
  · exact st
  · exact (rC_frame isF_10 (fun k hk => f k (by omega) (by omega))).trans eR
  · rw [f9]; show _ = zS x 0 1; rw [z 1 (by decide), hs_o (Or.inr (by decide)), hs_o (Or.inr (by decide)), hs_o (Or.inr (by decide)), hs_o (Or.inr (by decide)), hs_s]
  · rw [f9]; show _ = zS x 0 2; rw [z 2 (by decide), hs_o (Or.inr (by decide)), hs_o (Or.inr (by decide)), hs_o (Or.inr (by decide)), hs_s]
  · rw [f9]; show _ = zS x 0 5; rw [z 5 (by decide), hs_o (Or.inr (by decide)), hs_o (Or.inr (by decide)), hs_s]
  · rw [f9, hs_s]; rfl
  · rw [f9, hs_o (Or.inr (by omega)), hs_o (Or.inr (by omega)), hs_o (Or.inr (by omega)), hs_o (Or.inr (by omega)), hs_o (Or.inr (by omega))]
  · rw [hs_o (Or.inr (by decide)), hs_s]; exact (z 3 (by decide)).symm
  · rw [hs_s]; exact (z 4 (by decide)).symm
  · have h1' : (o : Int) < zS x 0 0 := h1
    rw [z 0 (by decide)] at h1'; omega
  · rw [f9, hs_o (Or.inr (by decide)), hs_s]
theorem c_M_lives {Q : PQ} {g T R0 : HP} {n x : Int} (eR : rmM g 0 = R0) (W : WR R0) (eT : tkM g 0 = T) (en : g 104 7 = n) (hT : WT T n R0) (hx : 0 ≤ x ∧ x ≤ 65535) (hb : (0 ≤ R0 0 4 ∧ R0 0 4 ≤ 1900000000) ∧ (0 ≤ R0 0 5 ∧ R0 0 5 ≤ 1900000000) ∧ (0 ≤ R0 0 6 ∧ R0 0 6 ≤ 1900000000))
    (kk : ∀ g', MR g T (runP T n 1204 (R0, zS x)).1 (runP T n 1204 (R0, zS x)).2 g' → g' 121 4 = (if n ≤ (runP T n 1204 (R0, zS x)).2 0 0 then 0 else 1) → Q none g') : Wp true i_M_lives 0 [vr 103, vi x, vr 9999, vr 9999] [] g Q := by
  have z : ∀ i, i ≠ 6 → zS x 0 i = 0 := fun i hi => if_neg (fun q => hi q.2)
  have n0 := hT.1
  have n60 := hT.2.1
  refine g_M_lives_0 ?_
  have rg := run_ok hT 1204 (R0, zS x) (PI_0 hT W hx) (by have := nd_0 (T := T) x; show ndP T (zS x) ≤ _; omega)
  have lp : ∀ (d i : Nat) (g1 : HP), i + d = 5 → (∀ c, c ≠ 103 → c ≠ 121 → g1 c = g c) → (∀ j, j ≠ 33 → j ≠ 34 → g1 103 j = g 103 j) → g1 103 33 = x → g1 103 34 = 0 → (∀ j, j < i → g1 121 j = 0) → Wp true i_M_lives 12 [vr 103, vi x, vi (i : Int), vr 9999] [] g1 Q := by
    intro d
    induction d with
    | zero =>
      intro i g1 e f f3 e3 e4 f1
      refine g_M_lives_12 (fun _ => ?_) (fun q => by omega) (fun q => by omega) (fun q => by omega)
      have lm := lives_M (Q := Q) (x1 := x) eT en hT hb 1204 (R0, zS x) g1 (vr 9999) (PI_0 hT W hx) ⟨(rmM_congr (f 104 (by decide) (by decide))).trans eR, fun c k1 k2 k3 k4 => f c k1 k4, fun i hi => by rw [f 104 (by decide) (by decide)], by rw [f 104 (by decide) (by decide)], f3, ?_, ?_, ?_, ?_, ?_, ?_, fun o _ h1 => ?_⟩ rg.1 (f1 4 (by omega)) ?_ kk
      · exact lm
      · rw [e4]; exact (z 1 (by decide)).symm
      · rw [e3]; rfl
      · rw [f1 0 (by omega)]; exact (z 2 (by decide)).symm
      · rw [f1 1 (by omega)]; exact (z 3 (by decide)).symm
      · rw [f1 2 (by omega)]; exact (z 4 (by decide)).symm
      · rw [f1 3 (by omega)]; exact (z 5 (by decide)).symm
      · have h1' : (o : Int) < zS x 0 0 := h1
        rw [z 0 (by decide)] at h1'; omega
      · show n ≤ zS x 0 0 ∨ ¬ T 0 (zS x 0 0).toNat = 17
        rw [z 0 (by decide)]
        by_cases q : n ≤ 0
        · exact Or.inl q
        · refine Or.inr (fun y => ?_)
          have := WT_en hT (e := 0) (by omega) y
          omega
    | succ d ih =>
      intro i g1 e f f3 e3 e4 f1
      refine g_M_lives_12 (fun q => by omega) (fun _ => by omega) (fun _ => by omega) (fun _ => ?_)
      rw [show ((i : Int)).toNat = i from Int.toNat_natCast _]
      refine ih (i + 1) _ (by omega) (fun c k1 k2 => by rw [hs_ne k2]; exact f c k1 k2) (fun j j1 j2 => by rw [hs_ne (by decide)]; exact f3 j j1 j2) (by rw [hs_ne (by decide)]; exact e3) (by rw [hs_ne (by decide)]; exact e4) (fun j hj => ?_)
      by_cases y : j = i
      · subst y; exact hs_s
      · rw [hs_o (Or.inr y)]; exact f1 j (by omega)
  exact lp 5 0 _ rfl (fun c k1 k2 => by rw [hs_ne k1, hs_ne k1]) (fun j j1 j2 => by rw [hs_o (Or.inr j2), hs_o (Or.inr j1)]) (by rw [hs_o (Or.inr (by decide)), hs_s]) hs_s (fun j hj => by omega)
