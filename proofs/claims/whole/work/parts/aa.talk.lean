theorem rmM_t {X Y : HP} (e : ∀ i, i < 75 → i ≠ 7 → Y 104 i = X 104 i) (W : WR (rmM X 0)) : rmM Y 0 = rmM X 0 := by
  have w := W.1
  have d0 : rmM X 0 0 1 = X 104 (0 + 1) := rfl
  have d1 : rmM X 0 0 3 = X 104 (0 + 2) := rfl
  have e1 := e 1 (by decide) (by decide)
  have e2 := e 2 (by decide) (by decide)
  have e3 := e 3 (by decide) (by decide)
  funext k i
  simp only [rmM, Nat.zero_add, e1, e2, e3]
  by_cases k0 : k = 0
  · simp only [k0, if_true]
    by_cases i2 : i < 2
    · rw [if_pos i2, if_pos i2, e i (by omega) (by omega)]
    · rw [if_neg i2, if_neg i2]
      by_cases i7 : i < 7
      · simp only [i7, if_true, e i (by omega) (by omega)]
      · simp only [i7, if_false]
  · simp only [if_neg k0]
    by_cases k1 : k = 1
    · simp only [k1, if_true]
      by_cases c : (i : Int) < X 104 1
      · have : X 104 (0 + 1) = X 104 1 := rfl
        rw [if_pos c, if_pos c, e (8 + i) (by omega) (by omega)]
      · rw [if_neg c, if_neg c]
    · simp only [if_neg k1]
      by_cases c : (i : Int) < X 104 2
      · have : X 104 (0 + 2) = X 104 2 := rfl
        rw [if_pos c, if_pos c]
        by_cases k8 : k < 8
        · rw [if_pos k8, if_pos k8, e _ (by omega) (by omega)]
        · rw [if_neg k8, if_neg k8]
      · rw [if_neg c, if_neg c]
theorem m_talks {Q : PQ} {h R : HP} {B : Bt} {n : Nat} {N : NT} (n3 : n ≤ 300) (nt : (n : Int) ≤ h 103 10) (hb : ∀ p, p < n → h 109 p = B p ∧ -128 ≤ B p ∧ B p ≤ 127) (C0 : RM h R N) (WR' : WR R)
    (k : hd (sTalks B n R N 301 (rn isBk B (n - 0) 0, (fun _ _ => 0), 0, 0, [])) (fun fk fp => ∀ g, RoM h g → (∀ i, i < 500 → g 104 i = h 104 i) → (∀ i, i < 10 → g 105 i = h 105 i) → g 103 16 = fk → g 103 17 = fp → g 103 2 = 9 → Q (some (vi (-1))) g)
      (fun o => ∀ g, RoM h g → (∀ i, i < 75 → i ≠ 7 → g 104 i = h 104 i) → g 104 7 = o.2.1 → tkM g 0 = o.1 → (∀ i, i < 10 → g 105 i = h 105 i) → g 103 16 = 0 → g 103 17 = -1 → g 103 2 = 0 → Q (some (vi (o.2.2 : Int))) g)) :
    Wp true i_M_talks 0 [vr 103, vi (n : Int), vr 9999, vr 9999] [] h Q := by
  refine g_M_talks_0 (c_M_begins (B := B) (by omega) (by omega) nt hb (fun H S f1 f2 t10 t17 t18 => g_M_talks_8 (fun _ => ?_) (fun z => absurd z (by decide))))
  have w := WR'.1
  have CH : RM H R N := by
    unfold RM
    rw [f2 104 (by decide) (by decide), f2 105 (by decide) (by decide)]; exact C0
  have ro : ∀ g, FrM H g → RoM h g := by
    intro g F
    refine ⟨fun k k1 k2 k3 k4 k5 => (F.1 k k1 k2 k3 k5).trans (f2 k k1 k4), fun i i1 i2 => (F.2.1 i i2).trans (by rw [f2 104 (by decide) (by decide)]), fun i i1 i2 => (F.2.2.1 i i2).trans (by rw [f2 105 (by decide) (by decide)]), fun i hi => ?_, (F.2.2.2 10 (by decide)).trans t10⟩
    have a : ∀ i, i ∈ [3, 4, 38, 39] → i ∈ KPM ∧ i ∉ [10, 11, 12, 13, 14, 15, 17, 18, 19] := by decide
    exact (F.2.2.2 i (a i hi).1).trans (f1 i (a i hi).2)
  -- a FAULT is told
  have bad : ∀ (fk : Int) (fp : Nat) (g : HP) (x2 : Int), 1 ≤ fk → (∀ g, RoM h g → (∀ i, i < 500 → g 104 i = h 104 i) → (∀ i, i < 10 → g 105 i = h 105 i) → g 103 16 = fk → g 103 17 = fp → g 103 2 = 9 → Q (some (vi (-1))) g) → FaM H g fk fp → Wp true i_M_talks 77 [vr 103, vi (n : Int), vi x2, vr 9999] [] g Q := by
    intro fk fp g x2 f1' q F
    have e18 := F.2.1
    refine g_M_talks_77 (fun _ => ?_) (fun z => by omega)
    refine g_M_taken_0 (fun z => by omega) (fun _ => g_M_talks_139 ?_)
    have F2 := ro g F.1
    refine q _ ⟨fun k k1 k2 k3 k4 k5 => ?_, fun i i1 i2 => ?_, fun i i1 i2 => ?_, fun i hi => ?_, ?_⟩ (fun i hi => ?_) (fun i hi => ?_) ?_ ?_ ?_
    · rw [hs_ne k1, hs_ne k1]; exact F2.1 k k1 k2 k3 k4 k5
    · rw [hs_ne (by decide), hs_ne (by decide)]; exact F2.2.1 i i1 i2
    · rw [hs_ne (by decide), hs_ne (by decide)]; exact F2.2.2.1 i i1 i2
    · have a : ∀ i, i ∈ [3, 4, 38, 39] → i ≠ 2 ∧ i ≠ 16 := by decide
      rw [hs_o (Or.inr (a i hi).1), hs_o (Or.inr (a i hi).2)]; exact F2.2.2.2.1 i hi
    · rw [hs_o (by decide), hs_o (by decide)]; exact F2.2.2.2.2
    · rw [hs_ne (by decide), hs_ne (by decide), F.1.2.1 i (by omega), f2 104 (by decide) (by decide)]
    · rw [hs_ne (by decide), hs_ne (by decide), F.1.2.2.1 i (by omega), f2 105 (by decide) (by decide)]
    · rw [hs_o (by decide), hs_s]; exact e18
    · rw [hs_o (by decide), hs_o (by decide)]; exact F.2.2
    · exact hs_s
  have lp : ∀ (d p : Nat) (a : TSt) (Y u : HP), p + d = 301 → p ≤ a.1 → FXM H Y → SMo B n a.1 Y u → TMr Y a.2.1 a.2.2.1 a.2.2.2.1 a.2.2.2.2 → WP a.2.1 a.2.2.1 a.2.2.2.1 a.2.2.2.2 R →
      hd (sTalks B n R N d a) (fun fk fp => 1 ≤ fk ∧ ∀ g, RoM h g → (∀ i, i < 500 → g 104 i = h 104 i) → (∀ i, i < 10 → g 105 i = h 105 i) → g 103 16 = fk → g 103 17 = fp → g 103 2 = 9 → Q (some (vi (-1))) g) (fun o => ∀ Y g, WP o.1 o.2.1 o.2.2 [] R → FXM H Y → EM Y g → TMr Y o.1 o.2.1 o.2.2 [] → Wp true i_M_talks 77 [vr 103, vi (n : Int), vi 1, vr 9999] [] g Q) →
      Wp true i_M_talks 38 [vr 103, vi (n : Int), vi 1, vr 9999] [] u Q := by
    intro d
    induction d with
    | zero =>
      intro p a Y u hp ha FY SY
      have := SY.2.2.1
      omega
    | succ d ih =>
      rintro p ⟨s, T, m, c, st⟩ Y u hp ha FY SY CY WY kk
      have ha : p ≤ s := ha
      have SY : SMo B n s Y u := SY
      have CY : TMr Y T m c st := CY
      have WY : WP T m c st R := WY
      have e12 : u 103 12 = kM (tK B n s) := SY.2.2.2.2.2.1
      have kc := kM_c (tK B n s)
      have tr := tK_rg (B := B) (n := n) (s := s)
      have t0 := tK_0 (B := B) (n := n) (s := s)
      have u18 : u 103 18 = 0 := z18 FY SY
      have u22 : u 103 22 = st.length := by rw [SY.1.2 22 (by decide)]; exact CY.2.1
      rw [sTalks] at kk
      by_cases c' : n ≤ s
      · rw [if_pos c'] at kk
        have z := t0.mpr c'
        have fin : Wp true i_M_talks 57 [vr 103, vi (n : Int), vi 1, vr 9999] [] u Q := by
          cases st with
          | nil =>
            rw [if_pos rfl] at kk
            have u22 : u 103 22 = 0 := u22
            exact g_M_talks_57 (fun y => absurd u18 y) (fun _ _ => kk Y u WY FY SY.1 CY) (fun _ y => by omega)
          | cons o st =>
            rw [if_neg (fun q => by cases q)] at kk
            rw [List.length_cons] at u22
            exact g_M_talks_57 (fun y => absurd u18 y) (fun _ y => by omega) (fun _ _ => c3_fail FY SY (hd_m kk (fun fk fp q g f => g_M_talks_76 (bad fk fp g 1 q.1 q.2 f)) (fun _ q => q)))
        exact g_M_talks_38 (fun y => absurd y (by decide)) (fun _ _ => fin) (fun _ y => by omega)
      · rw [if_neg c'] at kk
        have nz : ¬ tK B n s = 0 := fun z => c' (t0.mp z)
        have kk := hd_and (hd_bd.mp kk) (sStep_b (B := B) (n := n) (s := s) (N := N) (by omega) WR' WY)
        refine g_M_talks_38 (fun y => absurd y (by decide)) (fun _ y => by omega) (fun _ _ => ?_)
        refine c_M_talkStep FY CH WR' SY CY WY (hd_m kk (fun fk fp q g f => g_M_talks_53 (g_M_talks_38 (fun _ => g_M_talks_57 (fun _ => bad fk fp g 0 q.1.1 q.1.2 f) (fun y => ?_) (fun y => ?_)) (fun y => absurd rfl y) (fun y => absurd rfl y))) (fun a q Y' g FY' SY' CY' => g_M_talks_53 ?_))
        · have := f.2.1; have := q.1.1; omega
        · have := f.2.1; have := q.1.1; omega
        · exact ih (p + 1) a Y' g (by omega) (by have := q.2.1.1; omega) FY' SY' CY' q.2.2 q.1
  have X0 : SMo B n (rn isBk B (n - 0) 0) (hs (hs (hs H 104 2007 0) 103 22 0) 103 23 0) (hs (hs (hs H 104 2007 0) 103 22 0) 103 23 0) := SMo_3 (SMo_3 (SMo_w (X := H) ⟨EM_r, S⟩ (by decide) (by decide)) (by decide)) (by decide)
  have F0 : FXM H (hs (hs (hs H 104 2007 0) 103 22 0) 103 23 0) := FXM_3 (FXM_3 (FXM_4 ⟨FrM_r, t18, t17⟩ (by decide)) (by decide)) (by decide)
  have hn : rn isBk B (n - 0) 0 ≤ n := S.2.1
  have C1 : TMr (hs (hs (hs H 104 2007 0) 103 22 0) 103 23 0) (fun _ _ => 0) 0 0 [] := by
    refine ⟨?_, ?_, ?_, trivial, fun k e _ he => by omega⟩
    · rw [hs_ne (by decide), hs_ne (by decide), hs_s]; rfl
    · rw [hs_o (by decide), hs_s]; rfl
    · rw [hs_s]; rfl
  refine lp 301 0 (rn isBk B (n - 0) 0, (fun _ _ => 0), 0, 0, []) _ _ rfl (Nat.zero_le _) F0 X0 C1 WP_0 (hd_m (hd_and k (sTalks_b (B := B) (n := n) (N := N) WR' n3 301 0 (rn isBk B (n - 0) 0, (fun _ _ => 0), 0, 0, []) rfl (Nat.zero_le _) hn WP_0)) (fun fk fp q => ⟨q.2, q.1⟩) (fun o q Y g W FY EY' CY => ?_))
  have q := q.1
  have a0 := W.1
  have e18 : g 103 18 = 0 := by rw [EY'.2 18 (by decide)]; exact FY.2.1
  have e17 : g 103 17 = -1 := by rw [EY'.2 17 (by decide)]; exact FY.2.2
  have e23 : g 103 23 = o.2.2 := by rw [EY'.2 23 (by decide)]; exact CY.2.2.1
  have e07 : g 104 2007 = o.2.1 := by rw [EY'.1 104 (by decide)]; exact CY.1
  have Fg : FrM H g := by
    have kp : ∀ i, i ∈ KPM → i ∉ TLM := by decide
    exact ⟨fun k k1 k2 k3 k4 => (EY'.1 k k1).trans (FY.1.1 k k1 k2 k3 k4), fun i hi => by rw [EY'.1 104 (by decide)]; exact FY.1.2.1 i hi, fun i hi => by rw [EY'.1 105 (by decide)]; exact FY.1.2.2.1 i hi, fun i hi => (EY'.2 i (kp i hi)).trans (FY.1.2.2.2 i hi)⟩
  have F2 := ro g Fg
  refine g_M_talks_77 (fun z => absurd e18 z) (fun _ => ?_)
  rw [e07]
  have lp1 : ∀ (d i : Nat), i + d = 425 → Wp true i_M_talks 102 [vr 103, vi (n : Int), vi 1, vi ((75 + i : Nat) : Int)] [] (wr (hs g 104 7 (o.2.1 : Int)) 104 75 i (fun j => g 104 (2075 + j))) Q := by
    intro d
    induction d with
    | zero =>
      intro i hi
      have : i = 425 := by omega
      subst this
      obtain ⟨v, ev⟩ : ∃ v, v = wr (hs g 104 7 (o.2.1 : Int)) 104 75 425 (fun j => g 104 (2075 + j)) := ⟨_, rfl⟩
      have v3 : v 103 = g 103 := by rw [ev, wr_ne (by decide), hs_ne (by decide)]
      have v5 : v 105 = g 105 := by rw [ev, wr_ne (by decide), hs_ne (by decide)]
      have v7 : v 104 7 = o.2.1 := by rw [ev, wr_out (by omega), hs_s]
      have vl : ∀ i, i < 75 → i ≠ 7 → v 104 i = g 104 i := fun i h1 h2 => by rw [ev, wr_out (by omega), hs_o (Or.inr h2)]
      have vh : ∀ i, 75 ≤ i → i < 500 → v 104 i = g 104 (2000 + i) := fun i h1 h2 => by
        rw [ev, wr_in (by omega)]
        show g 104 (2075 + (i - 75)) = _
        rw [show 2075 + (i - 75) = 2000 + i by omega]
      rw [← ev]
      refine g_M_talks_102 (fun _ => ?_) (fun c => absurd (by decide) c) (fun c => absurd (by decide) c) (fun c => absurd (by decide) c) (fun c => absurd (by decide) c) (fun c => absurd (by decide) c)
      have w18 : v 103 18 = 0 := by rw [v3]; exact e18
      have w23 : v 103 23 = o.2.2 := by rw [v3]; exact e23
      refine g_M_taken_0 (fun _ => g_M_talks_139 ?_) (fun z => by omega)
      rw [w23, w18]
      refine q _ ⟨fun k k1 k2 k3 k4 k5 => ?_, fun i i1 i2 => ?_, fun i i1 i2 => ?_, fun i hi => ?_, ?_⟩ (fun i i1 i2 => ?_) ?_ ?_ (fun i hi => ?_) ?_ ?_ ?_
      · rw [hs_ne k1, hs_ne k1, ev, wr_ne k2, hs_ne k2]; exact F2.1 k k1 k2 k3 k4 k5
      · rw [hs_ne (by decide), hs_ne (by decide), ev, wr_out (by omega), hs_o (Or.inr (by omega))]; exact F2.2.1 i i1 i2
      · rw [hs_ne (by decide), hs_ne (by decide), v5]; exact F2.2.2.1 i i1 i2
      · have a : ∀ i, i ∈ [3, 4, 38, 39] → i ≠ 2 ∧ i ≠ 16 := by decide
        rw [hs_o (Or.inr (a i hi).1), hs_o (Or.inr (a i hi).2), v3]; exact F2.2.2.2.1 i hi
      · rw [hs_o (by decide), hs_o (by decide), v3]; exact F2.2.2.2.2
      · rw [hs_ne (by decide), hs_ne (by decide), vl i i1 i2, Fg.2.1 i (by omega), f2 104 (by decide) (by decide)]
      · rw [hs_ne (by decide), hs_ne (by decide)]; exact v7
      · funext k e
        unfold tkM
        rw [hs_ne (show (104 : Nat) ≠ 103 by decide), hs_ne (show (104 : Nat) ≠ 103 by decide), Nat.zero_add, v7]
        have a7 := W.2.2.2.2.2.2.2.1
        by_cases z : (e : Int) < (o.2.1 : Int) ∧ k < 6
        · have l0 : ([] : List Nat).length = 0 := rfl
          rw [l0] at a0
          rw [if_pos z, Nat.zero_add, vh _ (by omega) (by omega), show 2000 + (75 + 7 * e + k) = 2075 + 7 * e + k by omega, EY'.1 104 (by decide)]
          exact CY.2.2.2.2 k e z.2 (by omega)
        · rw [if_neg z]
          exact (a7 k e (by omega)).symm
      · rw [hs_ne (by decide), hs_ne (by decide), v5, Fg.2.2.1 i (by omega), f2 105 (by decide) (by decide)]
      · rw [hs_o (by decide), hs_s]
      · rw [hs_o (by decide), hs_o (by decide), v3]; exact e17
      · exact hs_s
    | succ d ih =>
      intro i hi
      refine g_M_talks_102 (fun c => by omega) (fun _ => by omega) (fun _ => by omega) (fun _ => by omega) (fun _ => by omega) (fun _ => ?_)
      rw [Int.toNat_natCast, show (2000 + ((75 + i : Nat) : Int)).toNat = 2075 + i by omega, wr_out (k' := 104) (i := 2075 + i) (by omega), hs_o (Or.inr (by omega))]
      have e := wr_s (h := hs g 104 7 (o.2.1 : Int)) (k := 104) (a := 75) (n := i) (T := fun j => g 104 (2075 + j))
      have st := ih (i + 1) (by omega)
      rw [← e] at st
      exact st
  have z := lp1 425 0 rfl
  rw [wr_0] at z
  exact z
theorem cl_talks {Q : PQ} {h R : HP} {B : Bt} {n : Nat} {N : NT} (n3 : n ≤ 300) (nt : (n : Int) ≤ h 5 2) (hb : ∀ p, p < n → h 6 p = B p) (hk : ∀ i, i < 22 → h 7 i = kwC.getD i 0) (C0 : RC h R N) (WR' : WR R)
    (k : hd (sTalks B n R N 301 (rn isBk B (n - 0) 0, (fun _ _ => 0), 0, 0, [])) (fun fk fp => ∀ g, RoC h g 9 fk fp → (∀ k, 10 ≤ k → k < 18 → g k = h k) → (∀ k, 26 ≤ k → k < 32 → g k = h k) → Q (some (vi (-1))) g)
      (fun o => ∀ g, RoC h g 0 0 (-1) → (∀ k, 10 ≤ k → k < 18 → g k = h k) → g 26 0 = 1 → g 26 2 = o.2.1 → tkC g 26 = o.1 → Q (some (vi (o.2.2 : Int))) g)) :
    Wp true i_C_talks 0 [vr 0, vi (n : Int), vr 9999] [] h Q := by
  refine g_C_talks_0 (fun z => absurd ⟨by omega, nt⟩ z) (fun _ _ => c_To_begin (B := B) (by omega) hb hk (fun H S o h3 h4 => g_C_talks_36 ?_)) (fun _ z => by omega)
  have CH : RC H R N := by
    unfold RC
    rw [o.1 10 (by decide), o.1 13 (by decide)]; exact C0
  have hn : rn isBk B (n - 0) 0 ≤ n := S.2.1
  refine c_Tr_readAll (N := N) CH WR' n3 S (hd_m (hd_and k (sTalks_b (B := B) (n := n) (N := N) WR' n3 301 0 (rn isBk B (n - 0) 0, (fun _ _ => 0), 0, 0, []) rfl (Nat.zero_le _) hn WP_0)) (fun fk fp q g f => ?_) (fun o' q Y g FY EY' CY => ?_))
  · refine g_C_talks_55 (g_To_emptyTape_0 (g_C_talks_63 (fun z => absurd rfl z) (fun _ => ?_)))
    have a : ∀ k, k ≠ 0 → k ≠ 5 → ¬ scC k → (hs (hs g 5 2 0) 0 0 9) k = h k := fun k k0 k5 ks' => by
      rw [hs_ne k0, hs_ne k5, f.1 k k5 ks', o.1 k k5]
    refine q.1 _ ⟨fun k k0 k5 ks' _ _ => a k k0 k5 ks', fun i hi => ?_, hs_s, ?_, ?_, ?_⟩ (fun k k1 k2 => a k (by omega) (by omega) (by unfold scC; omega)) (fun k k1 k2 => a k (by omega) (by omega) (by unfold scC; omega))
    · rw [hs_o (Or.inr hi), hs_ne (by decide), f.1 0 (by decide) (by unfold scC; omega), o.1 0 (by decide)]
    · rw [hs_ne (by decide), hs_s]
    · rw [hs_ne (by decide), hs_o (by decide)]; exact f.2.2.1
    · rw [hs_ne (by decide), hs_o (by decide)]; exact f.2.2.2
  · have W := q.2
    have q := q.1
    have a0 := W.1
    have l0 : ([] : List Nat).length = 0 := rfl
    rw [l0] at a0
    have g32 : ∀ i, i ≠ 0 → (hs (hs g 32 0 1) 5 2 0) 32 i = Y 32 i := fun i hi => by rw [hs_ne (by decide), hs_o (Or.inr hi), EY'.1 32 (by decide)]
    have g320 : (hs (hs g 32 0 1) 5 2 0) 32 0 = 1 := by rw [hs_ne (by decide), hs_s]
    have gk : ∀ k, k ≠ 5 → k ≠ 32 → (hs (hs g 32 0 1) 5 2 0) k = Y k := fun k k5 k32 => by rw [hs_ne k5, hs_ne k32, EY'.1 k k5]
    have eT : tkC (hs (hs g 32 0 1) 5 2 0) 32 = o'.1 := by
      rw [← TC_fin CY W]
      funext k e
      simp only [tkC, g32 2 (by decide), gk (32 + 1) (by decide) (by decide), gk (32 + 2) (by decide) (by decide), gk (32 + 3) (by decide) (by decide), gk (32 + 4) (by decide) (by decide), gk (32 + 5) (by decide) (by decide)]
    refine g_C_talks_55 (g_To_emptyTape_0 (g_C_talks_63 (fun _ => ?_) (fun z => absurd z (by decide))))
    refine c_Ta_become isT_26 isT_32 (by decide) (Or.inr g320) (by rw [g32 2 (by decide), CY.2.1]; omega) (fun u b => g_C_talks_85 ?_)
    have u1 : u 26 1 = o'.2.2 := by rw [b.1 1 (by decide), g32 1 (by decide)]; exact CY.1
    rw [u1]
    have gh : ∀ k, k ≠ 5 → ¬ scC k → ¬ (26 ≤ k ∧ k < 32) → u k = h k := fun k k5 ks' k26 => by
      have k32 : k ≠ 32 := fun z => ks' (by rw [z]; exact sc32 (j := 0) (by decide))
      rw [b.2.2 k (by omega), gk k k5 k32, FY k ks', o.1 k k5]
    have u5 : u 5 = (hs (hs g 32 0 1) 5 2 0) 5 := b.2.2 5 (by decide)
    refine q _ ⟨fun k k0 k5 ks' k10 k26 => ?_, fun i hi => ?_, hs_s, ?_, ?_, ?_⟩ (fun k k1 k2 => ?_) ?_ ?_ ?_
    · rw [hs_ne k0]; exact gh k k5 ks' k26
    · rw [hs_o (Or.inr hi), gh 0 (by decide) (by unfold scC; omega) (by decide)]
    · rw [hs_ne (by decide), u5, hs_s]
    · rw [hs_ne (by decide), u5, hs_o (by decide), hs_ne (by decide), EY'.2 3 (by decide), FY 5 sc5]; exact h3
    · rw [hs_ne (by decide), u5, hs_o (by decide), hs_ne (by decide), EY'.2 4 (by decide), FY 5 sc5]; exact h4
    · rw [hs_ne (by omega)]; exact gh k (by omega) (by unfold scC; omega) (by omega)
    · rw [hs_ne (by decide), b.1 0 (by decide)]; exact g320
    · rw [hs_ne (by decide), b.1 2 (by decide), g32 2 (by decide)]; exact CY.2.1
    · have e : tkC (hs u 0 0 0) 26 = tkC u 26 := by
        funext k e
        simp only [tkC, hs_ne (show (26 : Nat) ≠ 0 by decide), hs_ne (show (26 + 1 : Nat) ≠ 0 by decide), hs_ne (show (26 + 2 : Nat) ≠ 0 by decide), hs_ne (show (26 + 3 : Nat) ≠ 0 by decide), hs_ne (show (26 + 4 : Nat) ≠ 0 by decide), hs_ne (show (26 + 5 : Nat) ≠ 0 by decide)]
      rw [e, tkC_bec b, eT]
/-- the NAMES of the ROOM, as letters -/
theorem names_of {h : HP} {c : Int} (H : ∀ i : Nat, (i : Int) < c → NmE (h 13 i) (h 105 i)) : ∃ N : NT, ∀ i : Nat, (i : Int) < c → (h 13 i = nm32 (N i) ∧ h 105 i = nm256 (N i)) ∧ ∀ c ∈ N i, 1 ≤ c ∧ c ≤ 26 := by
  have key : ∀ i : Nat, ∃ l : List Nat, (i : Int) < c → (h 13 i = nm32 l ∧ h 105 i = nm256 l) ∧ ∀ c ∈ l, 1 ≤ c ∧ c ≤ 26 := by
    intro i
    by_cases z : (i : Int) < c
    · obtain ⟨l, -, -, a3, a4, a5⟩ := H i z
      exact ⟨l, fun _ => ⟨⟨a4, a5⟩, a3⟩⟩
    · exact ⟨[], fun y => absurd y z⟩
  exact ⟨fun i => Classical.choose (key i), fun i hi => Classical.choose_spec (key i) hi⟩
theorem A_talks {n : Nat} {h : HP} {x1 : Int} (hR : Rel n h) : Agree n h i_C_talks i_M_talks [vr 0, vi x1, vr 9999] [vr 103, vi x1, vr 9999, vr 9999] := by
  have Tp := hR.2.2.2.2.1
  have t1 := Tp.2.1
  have t2 := Tp.2.2.1
  by_cases c : (0 ≤ x1 ∧ x1 ≤ h 5 2) ∧ x1 ≤ 300
  · obtain ⟨m, rfl⟩ : ∃ m : Nat, x1 = m := ⟨x1.toNat, by omega⟩
    obtain ⟨B, eB⟩ : ∃ B : Bt, B = fun p => h 6 p := ⟨_, rfl⟩
    have hb : ∀ p, p < m → h 6 p = B p := fun p _ => by rw [eB]
    obtain ⟨b0, b1, b2, b3, b4, b5, b6, b7⟩ := hR
    obtain ⟨R, eR⟩ : ∃ R, R = rmC h 10 := ⟨_, rfl⟩
    have W : WR R := by rw [eR]; exact b5.2.1
    have w := W.1
    have eM : rmM h 0 = R := by rw [eR]; exact b5.1.symm
    have dc := cdim eR.symm
    have dm := mdim eM
    obtain ⟨N, hN⟩ := names_of (h := h) (c := R 0 3) (fun i hi => by
      have := b5.2.2.2.2.2.1 i (by rw [dc.2.2.2.1]; exact hi)
      rw [Nat.zero_add] at this
      exact this)
    have CC : RC h R N := ⟨dc.1, dc.2.1, dc.2.2.2.1, fun i hi => ⟨(hN i hi).1.1, (hN i hi).2⟩⟩
    have CM : RM h R N := ⟨dm.1, dm.2.1, dm.2.2.2.1, fun i hi => ⟨(hN i hi).1.2, (hN i hi).2⟩⟩
    rcases ho : sTalks B m R N 301 (rn isBk B (m - 0) 0, (fun _ _ => 0), 0, 0, []) with ⟨fk, fp⟩ | o
    · refine ⟨vi (-1), fun h1 => RoC h h1 9 fk fp ∧ (∀ k, 10 ≤ k → k < 18 → h1 k = h k) ∧ (∀ k, 26 ≤ k → k < 32 → h1 k = h k), fun h1 e => ⟨e.1.1 1000 (by decide) (by decide) (by unfold scC; omega) (by decide) (by decide), e.1.1 1001 (by decide) (by decide) (by unfold scC; omega) (by decide) (by decide)⟩, fun Q k => ?_, fun h1 Q e k => ?_⟩
      · refine cl_talks (B := B) (R := R) (N := N) (by omega) c.1.2 hb Tp.1 CC W ?_
        rw [ho]
        exact fun g r g1 g2 => k g ⟨r, g1, g2⟩
      · obtain ⟨r, g1, g2⟩ := e
        have mk : ∀ k, 103 ≤ k → h1 k = h k := fun k hk => r.1 k (by omega) (by omega) (by unfold scC; omega) (by omega) (by omega)
        refine m_talks (B := B) (R := R) (N := N) (by omega) (by rw [mk 103 (by decide)]; omega) (fun p hp => ?_) (by unfold RM; rw [mk 104 (by decide), mk 105 (by decide)]; exact CM) W ?_
        · have q := Tp.2.2.2.1 p (by omega)
          rw [mk 109 (by decide), ← q.1, eB]
          exact ⟨rfl, q.2⟩
        · rw [ho]
          intro g M a4 a5 c16 c17 c2
          have gk : ∀ k, k ≠ 0 → k ≠ 5 → k < 103 → ¬ scC k → g k = h k := fun k k0 k5 k3 ks' => by
            rw [M.1 k (by omega) (by omega) (by omega) (by omega) (by omega)]
            by_cases z1 : 10 ≤ k ∧ k < 18
            · exact g1 k z1.1 z1.2
            · by_cases z2 : 26 ≤ k ∧ k < 32
              · exact g2 k z2.1 z2.2
              · exact r.1 k k0 k5 ks' z1 z2
          have gm : ∀ k, 106 ≤ k → k ≠ 110 → k ≠ 111 → g k = h k := fun k k1 k2 k3 => by rw [M.1 k (by omega) (by omega) (by omega) k2 k3, mk k (by omega)]
          have g0 : g 0 = h1 0 := M.1 0 (by decide) (by decide) (by decide) (by decide) (by decide)
          have g5 : g 5 = h1 5 := M.1 5 (by decide) (by decide) (by decide) (by decide) (by decide)
          have a4' : ∀ i, i < 2000 → g 104 i = h 104 i := fun i hi => by
            by_cases z : i < 500
            · rw [a4 i z, mk 104 (by decide)]
            · rw [M.2.1 i (by omega) hi, mk 104 (by decide)]
          have a5' : ∀ i, i < 40 → g 105 i = h 105 i := fun i hi => by
            by_cases z : i < 10
            · rw [a5 i z, mk 105 (by decide)]
            · rw [M.2.2.1 i (by omega) hi, mk 105 (by decide)]
          refine k g ⟨?_, ?_, ?_, ?_, ?_, ?_, ?_, ?_⟩ ?_ ?_
          · rw [g0, r.2.2.1, c2]
          · rw [g0, r.2.1 1 (by decide), M.2.2.2.1 3 (by decide), mk 103 (by decide)]; exact b1
          · rw [g0, r.2.1 2 (by decide), M.2.2.2.1 4 (by decide), mk 103 (by decide)]; exact b2
          · refine RTray_c b3 (fun k hk => ?_)
            by_cases z : k < 103
            · exact gk k (by omega) (by omega) z (by unfold scC; omega)
            · exact gm k (by omega) (by omega) (by omega)
          · refine ⟨?_, ?_, ?_, fun p hp => ?_, ?_, ?_⟩
            · rw [gk 7 (by decide) (by decide) (by decide) (by unfold scC; omega)]; exact Tp.1
            · rw [g5, r.2.2.2.1, M.2.2.2.2]
            · rw [g5, r.2.2.2.1]; omega
            · rw [g5, r.2.2.2.1] at hp; omega
            · rw [g5, r.2.2.2.2.1, c16]
            · rw [g5, r.2.2.2.2.2, c17]
          · exact Slot_off b5 (by omega) (fun k k1 k2 => gk k (by omega) (by omega) (by omega) (by unfold scC; omega)) (fun k k1 k2 => gk k (by omega) (by omega) (by omega) (by unfold scC; omega)) (fun i i1 i2 => a4' i (by omega)) (fun i i1 i2 => a5' i (by omega))
          · exact RMarks_c b6 (by omega) (by rw [g0, r.2.1 13 (by decide)]) (by rw [M.2.2.2.1 39 (by decide), mk 103 (by decide)]) (fun k k1 k2 => gk k (by omega) (by omega) (by omega) (by unfold scC; omega)) (fun i i1 i2 => a4' i i2) (fun i i1 i2 => a5' i i2)
          · exact RLived_c b7 (by rw [gk 99 (by decide) (by decide) (by decide) (by unfold scC; omega)]) (by rw [M.2.2.2.1 38 (by decide), mk 103 (by decide)]) (fun k hk => by
              rcases hk with rfl | rfl
              · exact gk 102 (by decide) (by decide) (by decide) (by unfold scC; omega)
              · exact gm 122 (by decide) (by decide) (by decide))
          · rw [gm 1000 (by decide) (by decide) (by decide)]
          · rw [gm 1001 (by decide) (by decide) (by decide)]
    · have hn : rn isBk B (m - 0) 0 ≤ m := by
        have := rn_b (P := isBk) (B := B) (n := m) (s := 0) (Nat.zero_le _)
        exact this.2
      have WPo : WP o.1 o.2.1 o.2.2 [] R := by
        have := sTalks_b (B := B) (n := m) (N := N) W (by omega) 301 0 (rn isBk B (m - 0) 0, (fun _ _ => 0), 0, 0, []) rfl (Nat.zero_le _) hn WP_0
        rw [ho] at this
        exact this
      refine ⟨vi (o.2.2 : Int), fun h1 => RoC h h1 0 0 (-1) ∧ (∀ k, 10 ≤ k → k < 18 → h1 k = h k) ∧ h1 26 0 = 1 ∧ h1 26 2 = o.2.1 ∧ tkC h1 26 = o.1, fun h1 e => ⟨e.1.1 1000 (by decide) (by decide) (by unfold scC; omega) (by decide) (by decide), e.1.1 1001 (by decide) (by decide) (by unfold scC; omega) (by decide) (by decide)⟩, fun Q k => ?_, fun h1 Q e k => ?_⟩
      · refine cl_talks (B := B) (R := R) (N := N) (by omega) c.1.2 hb Tp.1 CC W ?_
        rw [ho]
        exact fun g r g1 g2 g3 g4 => k g ⟨r, g1, g2, g3, g4⟩
      · obtain ⟨r, g1, g2, g3, g4⟩ := e
        have mk : ∀ k, 103 ≤ k → h1 k = h k := fun k hk => r.1 k (by omega) (by omega) (by unfold scC; omega) (by omega) (by omega)
        refine m_talks (B := B) (R := R) (N := N) (by omega) (by rw [mk 103 (by decide)]; omega) (fun p hp => ?_) (by unfold RM; rw [mk 104 (by decide), mk 105 (by decide)]; exact CM) W ?_
        · have q := Tp.2.2.2.1 p (by omega)
          rw [mk 109 (by decide), ← q.1, eB]
          exact ⟨rfl, q.2⟩
        · rw [ho]
          intro g M al a7 aT a5 c16 c17 c2
          have gh : ∀ k, k < 103 → g k = h1 k := fun k hk => M.1 k (by omega) (by omega) (by omega) (by omega) (by omega)
          have gk : ∀ k, k ≠ 0 → k ≠ 5 → k < 103 → ¬ scC k → ¬ (26 ≤ k ∧ k < 32) → g k = h k := fun k k0 k5 k3 ks' z2 => by
            rw [gh k k3]
            by_cases z1 : 10 ≤ k ∧ k < 18
            · exact g1 k z1.1 z1.2
            · exact r.1 k k0 k5 ks' z1 z2
          have gm : ∀ k, 106 ≤ k → k ≠ 110 → k ≠ 111 → g k = h k := fun k k1 k2 k3 => by rw [M.1 k (by omega) (by omega) (by omega) k2 k3, mk k (by omega)]
          have a4' : ∀ i, 500 ≤ i → i < 2000 → g 104 i = h 104 i := fun i i1 hi => by rw [M.2.1 i i1 hi, mk 104 (by decide)]
          have a5' : ∀ i, i < 40 → g 105 i = h 105 i := fun i hi => by
            by_cases z : i < 10
            · rw [a5 i z, mk 105 (by decide)]
            · rw [M.2.2.1 i (by omega) hi, mk 105 (by decide)]
          have eC : rmC g 10 = R := by
            rw [eR]
            exact rmC_congr (fun i => by rw [gk 10 (by decide) (by decide) (by decide) (by unfold scC; omega) (by decide)]) (gk _ (by decide) (by decide) (by decide) (by unfold scC; omega) (by decide)) (gk _ (by decide) (by decide) (by decide) (by unfold scC; omega) (by decide)) (gk _ (by decide) (by decide) (by decide) (by unfold scC; omega) (by decide)) (gk _ (by decide) (by decide) (by decide) (by unfold scC; omega) (by decide)) (gk _ (by decide) (by decide) (by decide) (by unfold scC; omega) (by decide)) (gk _ (by decide) (by decide) (by decide) (by unfold scC; omega) (by decide))
          have eM' : rmM g 0 = R := by
            rw [← eM]
            exact rmM_t (fun i i1 i2 => by rw [al i i1 i2, mk 104 (by decide)]) (by rw [eM]; exact W)
          have g10 : g 10 = h 10 := gk 10 (by decide) (by decide) (by decide) (by unfold scC; omega) (by decide)
          have g11 : g 11 = h 11 := gk 11 (by decide) (by decide) (by decide) (by unfold scC; omega) (by decide)
          have g13 : g 13 = h 13 := gk 13 (by decide) (by decide) (by decide) (by unfold scC; omega) (by decide)
          have eT : tkC g 26 = o.1 := by
            rw [← g4]
            funext k e
            simp only [tkC, gh 26 (by decide), gh (26 + 1) (by decide), gh (26 + 2) (by decide), gh (26 + 3) (by decide), gh (26 + 4) (by decide), gh (26 + 5) (by decide)]
          have s3 := b5.2.2.1
          have s4 := b5.2.2.2.1
          have s5 := b5.2.2.2.2.1
          refine k g ⟨?_, ?_, ?_, ?_, ?_, ⟨?_, ?_, ?_, ?_, ?_, fun i hi => ?_, Or.inr ⟨?_, ?_, ?_, ?_⟩⟩, ?_, ?_⟩ ?_ ?_
          · rw [gh 0 (by decide), r.2.2.1, c2]
          · rw [gh 0 (by decide), r.2.1 1 (by decide), M.2.2.2.1 3 (by decide), mk 103 (by decide)]; exact b1
          · rw [gh 0 (by decide), r.2.1 2 (by decide), M.2.2.2.1 4 (by decide), mk 103 (by decide)]; exact b2
          · refine RTray_c b3 (fun k hk => ?_)
            by_cases z : k < 103
            · exact gk k (by omega) (by omega) z (by unfold scC; omega) (by omega)
            · exact gm k (by omega) (by omega) (by omega)
          · refine ⟨?_, ?_, ?_, fun p hp => ?_, ?_, ?_⟩
            · rw [gk 7 (by decide) (by decide) (by decide) (by unfold scC; omega) (by decide)]; exact Tp.1
            · rw [gh 5 (by decide), r.2.2.2.1, M.2.2.2.2]
            · rw [gh 5 (by decide), r.2.2.2.1]; omega
            · rw [gh 5 (by decide), r.2.2.2.1] at hp; omega
            · rw [gh 5 (by decide), r.2.2.2.2.1, c16]
            · rw [gh 5 (by decide), r.2.2.2.2.2, c17]
          · rw [eC, eM']
          · rw [eC]; exact W
          · show 0 ≤ g 11 0 ∧ g 11 0 ≤ 3000 * ((n + 1 : Nat) : Int)
            rw [g11]
            have s3 : 0 ≤ h 11 0 ∧ h 11 0 ≤ 3000 * (n : Int) := s3
            omega
          · show 0 ≤ g 11 1 ∧ g 11 1 ≤ 3000 * ((n + 1 : Nat) : Int)
            rw [g11]
            have s4 : 0 ≤ h 11 1 ∧ h 11 1 ≤ 3000 * (n : Int) := s4
            omega
          · rw [g10]
            omega
          · rw [g10, dc.2.2.2.1] at hi
            have q := b5.2.2.2.2.2.1 i (by rw [dc.2.2.2.1]; exact hi)
            show NmE (g 13 i) (g 105 (0 + i))
            rw [g13, Nat.zero_add, a5' i (by omega)]
            rw [Nat.zero_add] at q
            exact q
          · rw [gh 26 (by decide)]; exact g2
          · rw [gh 26 (by decide), g3]; exact a7.symm
          · rw [eT, aT]
          · rw [eT, eC, gh 26 (by decide), g3]; exact WP_WT WPo
          · exact RMarks_c b6 (by omega) (by rw [gh 0 (by decide), r.2.1 13 (by decide)]) (by rw [M.2.2.2.1 39 (by decide), mk 103 (by decide)]) (fun k k1 k2 => gk k (by omega) (by omega) (by omega) (by unfold scC; omega) (by omega)) a4' (fun i i1 i2 => a5' i i2)
          · exact RLived_c b7 (by rw [gk 99 (by decide) (by decide) (by decide) (by unfold scC; omega) (by decide)]) (by rw [M.2.2.2.1 38 (by decide), mk 103 (by decide)]) (fun k hk => by
              rcases hk with rfl | rfl
              · exact gk 102 (by decide) (by decide) (by decide) (by unfold scC; omega) (by decide)
              · exact gm 122 (by decide) (by decide) (by decide))
          · rw [gm 1000 (by decide) (by decide) (by decide)]
          · rw [gm 1001 (by decide) (by decide) (by decide)]
  · refine ag_act0 (v := vi (-1)) (st := 1) hR (fun Q k => ?_) (fun g Q e gk k => ?_)
    · exact g_C_talks_0 (fun _ => k) (fun q1 q2 => absurd ⟨q1, q2⟩ c) (fun _ _ => k)
    · have y : g 103 10 = h 5 2 := by rw [gk 103 (by decide)]; omega
      have en : Wp true i_M_talks 8 [vr 103, vi x1, vr 9999, vr 9999] [vi 0] g Q := g_M_talks_8 (fun z => absurd rfl z) (fun _ => k)
      exact g_M_talks_0 (g_M_begins_0 (fun _ => en) (fun _ _ => en) (fun q1 q2 _ => by omega) (fun _ _ _ => en))
