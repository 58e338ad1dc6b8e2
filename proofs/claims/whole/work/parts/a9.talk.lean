section
variable {Q : PQ} {h H X Y Z R T : HP} {B : Bt} {n s m c : Nat} {N : NT} {st : List Nat} {c' : Int}
theorem EY_new {w : Int} : EY (hs (hs (hs (hs (hs (hs (hs (hs (hs X 103 23 c') 104 (2075 + 7 * m) w) 104 (2075 + 7 * m + 1) 0) 104 (2075 + 7 * m + 2) 0) 104 (2075 + 7 * m + 3) 0) 104 (2075 + 7 * m + 4) 0) 104 (2075 + 7 * m + 5) 0) 104 (2075 + 7 * m + 6) 0) 104 2007 ((m : Int) + 1)) X m (w, 0, 0, 0, 0) c' := by
  refine ⟨fun k k1 k2 => ?_, fun i hi => ?_, ?_, hs_s, fun i i1 i2 => ?_, ?_, ?_, ?_, ?_, ?_, ?_⟩
  · rw [hs_ne k2, hs_ne k2, hs_ne k2, hs_ne k2, hs_ne k2, hs_ne k2, hs_ne k2, hs_ne k2, hs_ne k1]
  · rw [hs_ne (by decide), hs_ne (by decide), hs_ne (by decide), hs_ne (by decide), hs_ne (by decide), hs_ne (by decide), hs_ne (by decide), hs_ne (by decide), hs_o (Or.inr hi)]
  · rw [hs_ne (by decide), hs_ne (by decide), hs_ne (by decide), hs_ne (by decide), hs_ne (by decide), hs_ne (by decide), hs_ne (by decide), hs_ne (by decide), hs_s]
  · rw [hs_o (Or.inr i1), hs_o (Or.inr (by omega)), hs_o (Or.inr (by omega)), hs_o (Or.inr (by omega)), hs_o (Or.inr (by omega)), hs_o (Or.inr (by omega)), hs_o (Or.inr (by omega)), hs_o (Or.inr (by omega)), hs_ne (by decide)]
  · rw [hs_o (Or.inr (by omega)), hs_o (Or.inr (by omega)), hs_o (Or.inr (by omega)), hs_o (Or.inr (by omega)), hs_o (Or.inr (by omega)), hs_o (Or.inr (by omega)), hs_o (Or.inr (by omega)), hs_s]
  · rw [hs_o (Or.inr (by omega)), hs_o (Or.inr (by omega)), hs_o (Or.inr (by omega)), hs_o (Or.inr (by omega)), hs_o (Or.inr (by omega)), hs_o (Or.inr (by omega)), hs_s]
  · rw [hs_o (Or.inr (by omega)), hs_o (Or.inr (by omega)), hs_o (Or.inr (by omega)), hs_o (Or.inr (by omega)), hs_o (Or.inr (by omega)), hs_s]
  · rw [hs_o (Or.inr (by omega)), hs_o (Or.inr (by omega)), hs_o (Or.inr (by omega)), hs_o (Or.inr (by omega)), hs_s]
  · rw [hs_o (Or.inr (by omega)), hs_o (Or.inr (by omega)), hs_o (Or.inr (by omega)), hs_s]
  · rw [hs_o (Or.inr (by omega)), hs_o (Or.inr (by omega)), hs_s]
theorem TM_ent {x : EN} (C : TMr X T m c st) (E : EY Y X m x c') : ∀ k e, k < 6 → e < m + 1 → Y 104 (2075 + 7 * e + k) = tAdd T m x k e := by
  obtain ⟨e1, e2, e3, e4, e5, e6, e7, e8, e9, e10, e11⟩ := E
  intro k e hk he
  unfold tAdd
  by_cases z : e = m
  · rw [if_pos z, z]
    rcases (show k = 0 ∨ k = 1 ∨ k = 2 ∨ k = 3 ∨ k = 4 ∨ k = 5 by omega) with rfl | rfl | rfl | rfl | rfl | rfl
    · exact e6
    · exact e7
    · exact e8
    · exact e9
    · exact e10
    · exact e11
  · rw [if_neg z, e5 _ (by omega) (by omega)]
    exact C.2.2.2.2 k e hk (by omega)
theorem TM_add {x : EN} (C : TMr X T m c st) (E : EY Y X m x ((c : Int) + 1)) : TMr Y (tAdd T m x) (m + 1) (c + 1) st := by
  refine ⟨?_, ?_, ?_, ?_, TM_ent C E⟩
  · rw [E.2.2.2.1]; omega
  · rw [E.2.1 22 (by decide)]; exact C.2.1
  · rw [E.2.2.1]; omega
  · rw [E.1 111 (by decide) (by decide)]; exact C.2.2.2.1
theorem TM_open {x : EN} (C : TMr X T m c st) (E : EY Y X m x ((c : Int) + 1)) : TMr (hs (hs Y 111 st.length (m : Int)) 103 22 ((st.length : Int) + 1)) (tAdd T m x) (m + 1) (c + 1) (m :: st) := by
  refine ⟨?_, ?_, ?_, ⟨?_, ?_⟩, fun k e hk he => ?_⟩
  · rw [hs_ne (by decide), hs_ne (by decide), E.2.2.2.1]; omega
  · rw [hs_s, List.length_cons]; omega
  · rw [hs_o (by decide), hs_ne (by decide), E.2.2.1]; omega
  · rw [hs_ne (by decide), hs_s]
  · refine Opd_c st (fun i hi => ?_) C.2.2.2.1
    rw [hs_ne (by decide), hs_o (Or.inr (by omega)), E.1 111 (by decide) (by decide)]
  · rw [hs_ne (by decide), hs_ne (by decide)]; exact TM_ent C E k e hk he
theorem TM_end {o : Nat} (C : TMr X T m c (o :: st)) (om : o < m) (E : EY Y X m (17, 0, 0, 0, 0) (c : Int)) : TMr (hs (hs (hs Y 103 22 (st.length : Int)) 104 (2075 + 7 * m + 4) (o : Int)) 104 (2075 + 7 * o + 4) (m : Int)) (tEnd T m o) (m + 1) c st := by
  have en := TM_ent C E
  refine ⟨?_, ?_, ?_, ?_, fun k e hk he => ?_⟩
  · rw [hs_o (Or.inr (by omega)), hs_o (Or.inr (by omega)), hs_ne (by decide), E.2.2.2.1]; omega
  · rw [hs_ne (by decide), hs_ne (by decide), hs_s]
  · rw [hs_ne (by decide), hs_ne (by decide), hs_o (by decide), E.2.2.1]
  · rw [hs_ne (by decide), hs_ne (by decide), hs_ne (by decide), E.1 111 (by decide) (by decide)]; exact C.2.2.2.1.2
  · have q := en k e hk he
    unfold tAdd at q
    unfold tEnd
    by_cases z : e = m
    · subst z
      rw [if_pos rfl] at q ⊢
      by_cases k4 : k = 4
      · subst k4
        rw [hs_o (Or.inr (by omega)), hs_s]; rfl
      · rw [hs_o (Or.inr (by omega)), hs_o (Or.inr (by omega)), hs_ne (by decide), q]
        rcases (show k = 0 ∨ k = 1 ∨ k = 2 ∨ k = 3 ∨ k = 5 by omega) with rfl | rfl | rfl | rfl | rfl <;> rfl
    · rw [if_neg z] at q ⊢
      by_cases eo : e = o ∧ k = 4
      · rw [if_pos eo, eo.1, eo.2, hs_s]
      · rw [if_neg eo, hs_o (Or.inr (by omega)), hs_o (Or.inr (by omega)), hs_ne (by decide)]; exact q
theorem c_M_talkStep (F : FXM H X) (C0 : RM H R N) (WR' : WR R) (S : SMo B n s X h) (C : TMr X T m c st) (W : WP T m c st R) (k : hd (sStep B n s R N T m c st) (fun fk fp => ∀ g, FaM H g fk fp → Q (some (vi 0)) g) (fun a => ∀ Y g, FXM H Y → SMo B n a.1 Y g → TMr Y a.2.1 a.2.2.1 a.2.2.2.1 a.2.2.2.2 → Q (some (vi 1)) g)) : Wp true i_M_talkStep 0 [vr 103, vr 9999, vr 9999, vr 9999, vr 9999, vr 9999] [] h Q := by
  have a0 := W.1
  have r := WR'.1
  have rg := wm_rg (B := B) (n := n) (s := s)
  have w9 : wm (tW B n s) = 9 ↔ tW B n s = 9 := wm_eq (B := B) (n := n) (s := s) (j := 9) (by decide)
  have w10 : wm (tW B n s) = 10 ↔ tW B n s = 10 := wm_eq (B := B) (n := n) (s := s) (j := 10) (by decide)
  have w11 : wm (tW B n s) = 11 ↔ tW B n s = 11 := wm_eq (B := B) (n := n) (s := s) (j := 11) (by decide)
  have w12 : wm (tW B n s) = 12 ↔ tW B n s = 12 := wm_eq (B := B) (n := n) (s := s) (j := 12) (by decide)
  have w13 : wm (tW B n s) = 13 ↔ tW B n s = 14 := wm_eq (B := B) (n := n) (s := s) (j := 14) (by decide)
  have w14 : wm (tW B n s) = 14 ↔ tW B n s = 13 := wm_eq (B := B) (n := n) (s := s) (j := 13) (by decide)
  have w15 : wm (tW B n s) = 15 ↔ tW B n s = 15 := wm_eq (B := B) (n := n) (s := s) (j := 15) (by decide)
  have w16 : wm (tW B n s) = 16 ↔ tW B n s = 19 := wm_eq (B := B) (n := n) (s := s) (j := 19) (by decide)
  have w17 : wm (tW B n s) = 17 ↔ tW B n s = 20 := wm_eq (B := B) (n := n) (s := s) (j := 20) (by decide)
  have w18 : wm (tW B n s) = 18 ↔ tW B n s = 21 := wm_eq (B := B) (n := n) (s := s) (j := 21) (by decide)
  have h7 : h 104 2007 = m := by rw [S.1.1 104 (by decide)]; exact C.1
  have h22 : h 103 22 = st.length := by rw [S.1.2 22 (by decide)]; exact C.2.1
  have h23 : h 103 23 = c := by rw [S.1.2 23 (by decide)]; exact C.2.2.1
  obtain ⟨kk, ek⟩ : ∃ kk, kk = wm (tW B n s) := ⟨_, rfl⟩
  -- all but the WORD, from 123 on
  have pre : ∀ (x4 d : Int), m < 60 → (kk = 17 → d = 0) → (¬ kk = 17 → d = 1) → (∀ (x5 : Int) (Z g1 : HP), FXM H Z → SMo B n (nx B n s) Z g1 → EY Z X m (kk, 0, 0, 0, 0) ((c : Int) + d) → Wp true i_M_talkStep 192 [vr 103, vi kk, vi (m : Int), vi (2075 + 7 * (m : Int)), vi x4, vi x5] [] g1 Q) → Wp true i_M_talkStep 123 [vr 103, vi kk, vi (m : Int), vi (2075 + 7 * (m : Int)), vi x4, vr 9999] [] h Q := by
    intro x4 d hm d17 d1 kz
    have t0 : (2075 + 7 * (m : Int)).toNat = 2075 + 7 * m := by omega
    have t1 : (2075 + 7 * (m : Int) + 1).toNat = 2075 + 7 * m + 1 := by omega
    have t2 : (2075 + 7 * (m : Int) + (1 + 1)).toNat = 2075 + 7 * m + 2 := by omega
    have t3 : (2075 + 7 * (m : Int) + (1 + 1 + 1)).toNat = 2075 + 7 * m + 3 := by omega
    have t4 : (2075 + 7 * (m : Int) + (1 + 1 + 1 + 1)).toNat = 2075 + 7 * m + 4 := by omega
    have t5 : (2075 + 7 * (m : Int) + (1 + 1 + 1 + 1 + 1)).toNat = 2075 + 7 * m + 5 := by omega
    have t6 : (2075 + 7 * (m : Int) + (1 + 1 + 1 + 1 + 1 + 1)).toNat = 2075 + 7 * m + 6 := by omega
    have go : Wp true i_M_talkStep 139 [vr 103, vi kk, vi (m : Int), vi (2075 + 7 * (m : Int)), vi x4, vr 9999] [vi d, vi (h 103 23), vr 103] h Q := by
      rw [h23]
      have d01 : d = 0 ∨ d = 1 := by
        by_cases z : kk = 17
        · exact Or.inl (d17 z)
        · exact Or.inr (d1 z)
      refine g_M_talkStep_139 (by omega) (by omega) ?_
      rw [t0]
      refine g_M_talkStep_153 (fun z => absurd z (by decide)) (fun z => absurd z (by decide)) (fun _ => by omega) (fun _ => by omega) (fun _ => by decide) (fun _ => ?_)
      rw [t1]
      refine g_M_talkStep_153 (fun z => absurd z (by decide)) (fun z => absurd z (by decide)) (fun _ => by omega) (fun _ => by omega) (fun _ => by decide) (fun _ => ?_)
      rw [t2]
      refine g_M_talkStep_153 (fun z => absurd z (by decide)) (fun z => absurd z (by decide)) (fun _ => by omega) (fun _ => by omega) (fun _ => by decide) (fun _ => ?_)
      rw [t3]
      refine g_M_talkStep_153 (fun z => absurd z (by decide)) (fun z => absurd z (by decide)) (fun _ => by omega) (fun _ => by omega) (fun _ => by decide) (fun _ => ?_)
      rw [t4]
      refine g_M_talkStep_153 (fun z => absurd z (by decide)) (fun z => absurd z (by decide)) (fun _ => by omega) (fun _ => by omega) (fun _ => by decide) (fun _ => ?_)
      rw [t5]
      refine g_M_talkStep_153 (fun z => absurd z (by decide)) (fun z => absurd z (by decide)) (fun _ => by omega) (fun _ => by omega) (fun _ => by decide) (fun _ => ?_)
      rw [t6]
      have e7 : (hs (hs (hs (hs (hs (hs (hs (hs h 103 23 ((c : Int) + d)) 104 (2075 + 7 * m) kk) 104 (2075 + 7 * m + 1) 0) 104 (2075 + 7 * m + 2) 0) 104 (2075 + 7 * m + 3) 0) 104 (2075 + 7 * m + 4) 0) 104 (2075 + 7 * m + 5) 0) 104 (2075 + 7 * m + 6) 0) 104 2007 = m := by
        rw [hs_o (Or.inr (by omega)), hs_o (Or.inr (by omega)), hs_o (Or.inr (by omega)), hs_o (Or.inr (by omega)), hs_o (Or.inr (by omega)), hs_o (Or.inr (by omega)), hs_o (Or.inr (by omega)), hs_ne (by decide)]; exact h7
      refine g_M_talkStep_153 (fun _ => by rw [e7]; omega) (fun _ => ?_) (fun z => absurd (by decide) z) (fun z => absurd (by decide) z) (fun z => absurd (by decide) z) (fun z => absurd (by decide) z)
      rw [e7]
      have S9 := SMo_w (k := 104) (i := 2007) (v := (m : Int) + 1) (SMo_w (k := 104) (i := 2075 + 7 * m + 6) (v := 0) (SMo_w (k := 104) (i := 2075 + 7 * m + 5) (v := 0) (SMo_w (k := 104) (i := 2075 + 7 * m + 4) (v := 0) (SMo_w (k := 104) (i := 2075 + 7 * m + 3) (v := 0) (SMo_w (k := 104) (i := 2075 + 7 * m + 2) (v := 0) (SMo_w (k := 104) (i := 2075 + 7 * m + 1) (v := 0) (SMo_w (k := 104) (i := 2075 + 7 * m) (v := kk) (SMo_3 (i := 23) (v := (c : Int) + d) S (by decide)) (by decide) (by decide)) (by decide) (by decide)) (by decide) (by decide)) (by decide) (by decide)) (by decide) (by decide)) (by decide) (by decide)) (by decide) (by decide)) (by decide) (by decide)
      have F9 := FXM_4 (i := 2007) (v := (m : Int) + 1) (FXM_4 (i := 2075 + 7 * m + 6) (v := 0) (FXM_4 (i := 2075 + 7 * m + 5) (v := 0) (FXM_4 (i := 2075 + 7 * m + 4) (v := 0) (FXM_4 (i := 2075 + 7 * m + 3) (v := 0) (FXM_4 (i := 2075 + 7 * m + 2) (v := 0) (FXM_4 (i := 2075 + 7 * m + 1) (v := 0) (FXM_4 (i := 2075 + 7 * m) (v := kk) (FXM_3 (i := 23) (v := (c : Int) + d) F (by decide)) (by omega)) (by omega)) (by omega)) (by omega)) (by omega)) (by omega)) (by omega)) (by decide)
      exact c3_next S9 (fun g1 S1 => kz _ _ g1 F9 S1 EY_new)
    by_cases z : kk = 17
    · have := d17 z
      subst this
      exact g_M_talkStep_123 (fun y => absurd z y) (fun _ => go)
    · have := d1 z
      subst this
      exact g_M_talkStep_123 (fun _ => go) (fun y => absurd y z)
  have ff : ∀ {α : Type} (x1 x4 : Int) (K : α → Prop), hd (fl B n s x1 : PR α) (fun fk fp => ∀ g, FaM H g fk fp → Q (some (vi 0)) g) K → Wp true i_M_fails 0 [vr 103, vi x1] [] h (fun r h' => Wp true i_M_talkStep 80 [vr 103, vi kk, vi (m : Int), vi (2075 + 7 * (m : Int)), vi x4, vr 9999] (r.toList ++ []) h' Q) := fun x1 x4 K q =>
    c3_fail F S (hd_m q (fun fk fp q g f => g_M_talkStep_80 (Or.inl rfl) (q g f)) (fun _ q => q))
  -- from 42 on
  have main : ∀ x4 : Int, (x4 = 1 ∧ (kk = 15 ∨ kk = 16)) ∨ (x4 = 0 ∧ ¬ (kk = 15 ∨ kk = 16)) → Wp true i_M_talkStep 42 [vr 103, vi kk, vi (m : Int), vi (2075 + 7 * (m : Int)), vr 9999, vr 9999] [vi x4] h Q := by
    intro x4 hx
    unfold sStep at k
    by_cases t20 : tW B n s = 20
    · rw [if_pos t20] at k
      have k17 : kk = 17 := by rw [ek]; exact w17.mpr t20
      have x0 : x4 = 0 := by omega
      cases st with
      | nil =>
        have h22 : h 103 22 = 0 := h22
        exact g_M_talkStep_42 (fun z => by omega) (fun _ z => by omega) (fun _ _ z => by omega) (fun _ _ _ z => by omega) (fun _ _ _ _ z => absurd h22 z) (fun _ _ _ _ _ => ff 2 x4 _ k)
      | cons o st =>
        rw [List.length_cons] at h22 a0
        have om := W.2.1.1.1
        refine g_M_talkStep_42 (fun z => by omega) (fun _ z => by omega) (fun _ _ z => by omega) (fun _ _ _ z => by omega) (fun _ _ _ _ _ => ?_) (fun _ _ _ _ z => by omega)
        refine g_M_talkStep_81 (fun _ => ?_) (fun z => absurd k17 z) (fun z => absurd k17 z)
        refine g_M_talkStep_103 (fun _ => ?_) (fun z => absurd x0 z) (fun z => absurd x0 z)
        refine pre x4 0 (by omega) (fun _ => rfl) (fun z => absurd k17 z) (fun x5 Z g1 FZ SZ EZ => ?_)
        rw [Int.add_zero] at EZ
        have z22 : Z 103 22 = (st.length : Int) + 1 := by
          rw [EZ.2.1 22 (by decide), C.2.1, List.length_cons]; omega
        have z111 : Z 111 st.length = o := by rw [EZ.1 111 (by decide) (by decide)]; exact C.2.2.2.1.1
        have g22 : g1 103 22 = (st.length : Int) + 1 := by rw [SZ.1.2 22 (by decide)]; exact z22
        have e1 : g1 103 22 - 1 = (st.length : Int) := by omega
        have g111 : g1 111 (g1 103 22 - 1).toNat = o := by rw [e1, Int.toNat_natCast, SZ.1.1 111 (by decide)]; exact z111
        have t4 : (2075 + 7 * (m : Int) + 4).toNat = 2075 + 7 * m + 4 := by omega
        have t5 : (2075 + 7 * (o : Int) + 4).toNat = 2075 + 7 * o + 4 := by omega
        refine g_M_talkStep_192 ?_
        rw [k17] at EZ ⊢
        refine g_M_talkOrder_0 (fun z => absurd z (by decide)) (fun z => absurd z (by decide)) (fun z => absurd z (by decide)) (fun z => absurd z (by decide)) (fun z => absurd z (by decide)) (fun z => absurd z (by decide)) (fun z => absurd z (by decide)) (fun z => absurd z (by decide)) (fun z => absurd z (by decide)) (fun z => absurd z (by decide)) (fun z => absurd z (by decide)) (fun z => absurd z (by decide)) (fun z => absurd z (by decide)) (fun _ _ _ _ _ _ _ _ => ?_)
        refine g_M_talkStep_198 (fun _ _ => ?_) (fun _ z => absurd x0 z) (fun _ z => absurd x0 z) (fun _ z => absurd x0 z) (fun z => absurd z (by decide))
        refine g_M_talkStep_228 (fun z => absurd rfl z) (fun _ => by omega) (fun _ => by omega) (fun _ => by omega) (fun _ => by omega) (fun _ => by rw [g111]; omega) (fun _ => by rw [g111]; omega) (fun _ => by rw [g111]; omega) (fun _ => by rw [g111]; omega) (fun _ => ?_)
        rw [g111, e1, t4, t5]
        have S2 := SMo_w (k := 104) (i := 2075 + 7 * o + 4) (v := (m : Int)) (SMo_w (k := 104) (i := 2075 + 7 * m + 4) (v := (o : Int)) (SMo_3 (i := 22) (v := (st.length : Int)) SZ (by decide)) (by decide) (by decide)) (by decide) (by decide)
        have F2 := FXM_4 (i := 2075 + 7 * o + 4) (v := (m : Int)) (FXM_4 (i := 2075 + 7 * m + 4) (v := (o : Int)) (FXM_3 (i := 22) (v := (st.length : Int)) FZ (by decide)) (by omega)) (by omega)
        exact c3_end F2 S2 (hd_m (hd_bd.mp k) (fun fk fp q g f => g_M_talkStep_291 (Or.inl rfl) (q g f)) (fun s' q g2 S3 => g_M_talkStep_291 (Or.inr rfl) (q _ g2 F2 S3 (TM_end C om EZ))))
    · rw [if_neg t20] at k
      have n17 : ¬ kk = 17 := by rw [ek]; exact fun z => t20 (w17.mp z)
      by_cases bg : bgS (tW B n s)
      · rw [if_neg (fun z => z bg)] at k
        have kv : (9 ≤ kk ∧ kk ≤ 13) ∨ kk = 15 ∨ kk = 16 ∨ kk = 18 := by
          rw [ek]
          rcases bg with z | z | z | z | z | z | z | z
          · have := w9.mpr z; omega
          · have := w10.mpr z; omega
          · have := w11.mpr z; omega
          · have := w12.mpr z; omega
          · have := w13.mpr z; omega
          · have := w15.mpr z; omega
          · have := w16.mpr z; omega
          · have := w18.mpr z; omega
        have op : (kk = 15 ∨ kk = 16) ↔ (tW B n s = 15 ∨ tW B n s = 19) := by rw [ek, w15, w16]
        refine g_M_talkStep_42 (fun z => by omega) (fun _ z => by omega) (fun _ _ z => by omega) (fun _ _ _ _ => ?_) (fun _ _ _ z => absurd z n17) (fun _ _ _ z => absurd z n17)
        by_cases c30 : 30 ≤ c
        · rw [if_pos c30] at k
          exact g_M_talkStep_81 (fun z => absurd z n17) (fun _ z => by omega) (fun _ _ => c3_fail F S (hd_m k (fun fk fp q g f => g_M_talkStep_102 (Or.inl rfl) (q g f)) (fun _ q => q)))
        · rw [if_neg c30] at k
          refine g_M_talkStep_81 (fun z => absurd z n17) (fun _ _ => ?_) (fun _ z => by omega)
          by_cases dp : (tW B n s = 15 ∨ tW B n s = 19) ∧ 3 ≤ st.length
          · rw [if_pos dp] at k
            have o1 := op.mpr dp.1
            exact g_M_talkStep_103 (fun z => by omega) (fun _ z => by omega) (fun _ _ => c3_fail F S (hd_m k (fun fk fp q g f => g_M_talkStep_122 (Or.inl rfl) (q g f)) (fun _ q => q)))
          · rw [if_neg dp] at k
            have rest : Wp true i_M_talkStep 123 [vr 103, vi kk, vi (m : Int), vi (2075 + 7 * (m : Int)), vi x4, vr 9999] [] h Q := by
              refine pre x4 1 (by omega) (fun z => absurd z n17) (fun _ => rfl) (fun x5 Z g1 FZ SZ EZ => g_M_talkStep_192 ?_)
              have hn : nx B n s ≤ n := SZ.2.2.1
              rw [ek] at EZ ⊢
              refine c_M_talkOrder bg FZ C0 WR' SZ EZ (by omega) (hd_m (hd_bd.mp k) (fun fk fp q g f => g_M_talkStep_198 (fun z => absurd rfl z) (fun z => absurd rfl z) (fun z => absurd rfl z) (fun z => absurd rfl z) (fun _ => q g f)) (fun a q Y g2 FY SY EY' => ?_))
              rw [← ek]
              have y22 : Y 103 22 = st.length := by rw [EY'.2.1 22 (by decide)]; exact C.2.1
              have g22 : g2 103 22 = st.length := by rw [SY.1.2 22 (by decide)]; exact y22
              by_cases oo : kk = 15 ∨ kk = 16
              · have x1 : x4 = 1 := by omega
                have o1 := op.mp oo
                refine g_M_talkStep_198 (fun _ z => by omega) (fun _ _ => by omega) (fun _ _ => by omega) (fun _ _ => ?_) (fun z => absurd z (by decide))
                rw [g22, Int.toNat_natCast]
                have S3 := SMo_3 (i := 22) (v := (st.length : Int) + 1) (SMo_w (k := 111) (i := st.length) (v := (m : Int)) SY (by decide) (by decide)) (by decide)
                have F3 := FXM_3 (i := 22) (v := (st.length : Int) + 1) (FXM_1 (i := st.length) (v := (m : Int)) FY) (by decide)
                refine g_M_talkStep_228 (fun _ => ?_) (fun z => absurd z n17) (fun z => absurd z n17) (fun z => absurd z n17) (fun z => absurd z n17) (fun z => absurd z n17) (fun z => absurd z n17) (fun z => absurd z n17) (fun z => absurd z n17) (fun z => absurd z n17)
                refine c3_end F3 S3 (hd_m (hd_bd.mp q) (fun fk fp q g f => g_M_talkStep_291 (Or.inl rfl) (q g f)) (fun s' q g4 S4 => g_M_talkStep_291 (Or.inr rfl) (q _ g4 F3 S4 ?_)))
                show TMr _ (tAdd T m a.2) (m + 1) (c + 1) (if tW B n s = 15 ∨ tW B n s = 19 then m :: st else st)
                rw [if_pos o1]
                exact TM_open C EY'
              · have x0 : x4 = 0 := by omega
                have o1 : ¬ (tW B n s = 15 ∨ tW B n s = 19) := fun z => oo (op.mpr z)
                refine g_M_talkStep_198 (fun _ _ => ?_) (fun _ z => absurd x0 z) (fun _ z => absurd x0 z) (fun _ z => absurd x0 z) (fun z => absurd z (by decide))
                refine g_M_talkStep_228 (fun _ => ?_) (fun z => absurd z n17) (fun z => absurd z n17) (fun z => absurd z n17) (fun z => absurd z n17) (fun z => absurd z n17) (fun z => absurd z n17) (fun z => absurd z n17) (fun z => absurd z n17) (fun z => absurd z n17)
                refine c3_end FY SY (hd_m (hd_bd.mp q) (fun fk fp q g f => g_M_talkStep_291 (Or.inl rfl) (q g f)) (fun s' q g4 S4 => g_M_talkStep_291 (Or.inr rfl) (q _ g4 FY S4 ?_)))
                show TMr _ (tAdd T m a.2) (m + 1) (c + 1) (if tW B n s = 15 ∨ tW B n s = 19 then m :: st else st)
                rw [if_neg o1]
                exact TM_add C EY'
            have nd : ¬ x4 = 0 → ¬ h 103 22 = 3 := by
              intro z y
              have o1 : tW B n s = 15 ∨ tW B n s = 19 := op.mp (by omega)
              exact dp ⟨o1, by omega⟩
            exact g_M_talkStep_103 (fun _ => rest) (fun _ _ => rest) (fun z y => absurd y (nd z))
      · rw [if_pos bg] at k
        have no : kk < 9 ∨ 18 < kk ∨ kk = 14 := by
          rw [ek]
          have a : ¬ (9 ≤ wm (tW B n s) ∧ wm (tW B n s) ≤ 18 ∧ ¬ wm (tW B n s) = 14) := by
            intro z
            rw [ek] at n17
            rcases (show wm (tW B n s) = 9 ∨ wm (tW B n s) = 10 ∨ wm (tW B n s) = 11 ∨ wm (tW B n s) = 12 ∨ wm (tW B n s) = 13 ∨ wm (tW B n s) = 15 ∨ wm (tW B n s) = 16 ∨ wm (tW B n s) = 18 by omega) with y | y | y | y | y | y | y | y
            · exact bg (by have := w9.mp y; omega)
            · exact bg (by have := w10.mp y; omega)
            · exact bg (by have := w11.mp y; omega)
            · exact bg (by have := w12.mp y; omega)
            · exact bg (by have := w13.mp y; omega)
            · exact bg (by have := w15.mp y; omega)
            · exact bg (by have := w16.mp y; omega)
            · exact bg (by have := w18.mp y; omega)
          omega
        exact g_M_talkStep_42 (fun _ => ff 2 x4 _ k) (fun _ _ => ff 2 x4 _ k) (fun _ _ _ => ff 2 x4 _ k) (fun z1 z2 z3 _ => by omega) (fun _ _ _ z => absurd z n17) (fun _ _ _ z => absurd z n17)
  refine g_M_talkStep_0 (c_M_inWords S.2 ?_)
  rw [← ek]
  refine g_M_talkStep_6 (by omega) (by omega) (fun z => ?_) (fun z1 z2 => ?_) (fun z1 z2 => ?_)
  · rw [h7]; exact main 1 (by omega)
  · rw [h7]; exact main 0 (by omega)
  · rw [h7]; exact main 1 (by omega)
end
