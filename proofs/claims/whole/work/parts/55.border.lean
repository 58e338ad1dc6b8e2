/-! ===== the border ===== -/
noncomputable def ind (p : Prop) : Int := @ite Int p (Classical.propDecidable _) 1 0
theorem ind_t {p : Prop} (h : p) : ind p = 1 := if_pos h
theorem ind_f {p : Prop} (h : ¬ p) : ind p = 0 := if_neg h
theorem ind_rg (p : Prop) : 0 ≤ ind p ∧ ind p ≤ 1 := by
  by_cases h : p
  · rw [ind_t h]; omega
  · rw [ind_f h]; omega
theorem cntC_ind {R : HP} {p : Nat → Nat → Prop} : cntC R p = sumF (fun r => sumF (fun c => ind (p c r)) (R 0 0).toNat 0) (R 0 1).toNat 0 := rfl
theorem sumI_rg (p : Nat → Prop) (d i : Nat) : 0 ≤ sumF (fun c => ind (p c)) d i ∧ sumF (fun c => ind (p c)) d i ≤ d := by
  have := sumF_rng (f := fun c => ind (p c)) (a := 0) (b := 1) d i (fun j _ _ => ind_rg _)
  omega
def atB (R : HP) (l : Int) (c r : Nat) : Prop := SL R l c r ∧ ∃ c' r', nb c r c' r' ∧ isB R c' r' ∧ ¬ rLand R c' r' = l
theorem c_Is_touchesOther {Q : PQ} {h R : HP} {x2 : Int} {f1 c r : Nat} (h_f1 : isF f1) (eR : rmC h f1 = R) (W : WR R) (hb : isB R c r) (hx : x2 = ((9 * r + c : Nat) : Int)) (hk : ∀ c r, isB R c r → h 83 (9 * r + c) = rLand R c r)
    (k1 : atB R (rLand R c r) c r → Q (some (vi 1)) h) (k0 : ¬ atB R (rLand R c r) c r → Q (some (vi 0)) h) : Wp true i_Is_touchesOther 0 [vr 82, vr f1, vi x2, vr 9999, vr 9999] [] h Q := by
  subst hx
  have w := W.1
  have hb1 := hb.1
  have hb2 := hb.2
  have key : ∀ (d : Nat) (s : Int) (j4 : AV), 0 ≤ s → s + d = 4 → (∀ s', 0 ≤ s' → s' < s → ∀ c' r', isB R c' r' → bs R ((9 * r + c : Nat) : Int) s' = ((9 * r' + c' : Nat) : Int) → rLand R c' r' = rLand R c r) → Wp true i_Is_touchesOther 2 [vr 82, vr f1, vi ((9 * r + c : Nat) : Int), vi s, j4] [] h Q := by
    intro d
    induction d with
    | zero =>
      intro s j4 s0 e pr
      have fin : Q (some (vi 0)) h := by
        refine k0 (fun q => ?_)
        obtain ⟨-, c', r', n', b', l'⟩ := q
        obtain ⟨s', s1, s2⟩ := nb_bs W hb b' n'
        exact l' (pr s' s1.1 (by omega) c' r' b' s2)
      refine g_Is_touchesOther_2 h_f1 ?_ ?_ ?_ ?_ ?_ ?_ ?_ ?_ ?_
      · intro c1; (try simp only [Int.toNat_natCast] at c1); first | (exfalso; omega) | exact absurd trivial ‹¬ True› | (exact fin)
      · intro c1; (try simp only [Int.toNat_natCast] at c1); first | omega | (exfalso; omega) | exact ⟨by omega, by omega⟩ | (omega) | exact absurd trivial ‹¬ True›
      · intro c1; (try simp only [Int.toNat_natCast] at c1); first | omega | (exfalso; omega) | exact ⟨by omega, by omega⟩ | (omega) | exact absurd trivial ‹¬ True›
      · intro c1 c2; (try simp only [Int.toNat_natCast] at c1 c2); first | omega | (exfalso; omega) | exact ⟨by omega, by omega⟩ | (omega) | exact absurd trivial ‹¬ True›
      · intro c1 c2; (try simp only [Int.toNat_natCast] at c1 c2); first | (exfalso; omega) | exact absurd trivial ‹¬ True› | (skip)
      · intro c1 c2; (try simp only [Int.toNat_natCast] at c1 c2); first | omega | (exfalso; omega) | exact ⟨by omega, by omega⟩ | (omega) | exact absurd trivial ‹¬ True›
      · intro c1 c2 c3; (try simp only [Int.toNat_natCast] at c1 c2 c3); first | omega | (exfalso; omega) | exact ⟨by omega, by omega⟩ | (omega) | exact absurd trivial ‹¬ True›
      · intro c1 c2 c3; (try simp only [Int.toNat_natCast] at c1 c2 c3); first | (exfalso; omega) | exact absurd trivial ‹¬ True› | (skip)
      · intro c1 c2 c3; (try simp only [Int.toNat_natCast] at c1 c2 c3); first | (exfalso; omega) | exact absurd trivial ‹¬ True› | (skip)
    | succ d ih =>
      intro s j4 s0 e pr
      have bsv := bs_nb W hb (s := s) (by omega)
      have en : (((9 * r + c : Nat) : Int)).toNat = 9 * r + c := Int.toNat_natCast _
      rcases bsv with z | ⟨a, b, n1, b1, e1⟩
      · have nx := fun j4 => ih (s + 1) j4 (by omega) (by omega) (fun s' s1 s2 c' r' b' e' => by
          by_cases y : s' < s
          · exact pr s' s1 y c' r' b' e'
          · have y : s' = s := by omega
            rw [y, z] at e'
            omega)
        have z' : bs (rmC h f1) ((9 * r + c : Nat) : Int) s = -1 := by rw [eR]; exact z
        refine g_Is_touchesOther_2 h_f1 ?_ ?_ ?_ ?_ ?_ ?_ ?_ ?_ ?_
        · intro c1; (try simp only [Int.toNat_natCast] at c1); first | (exfalso; omega) | exact absurd trivial ‹¬ True› | (skip)
        · intro c1; (try simp only [Int.toNat_natCast] at c1); first | omega | (exfalso; omega) | exact ⟨by omega, by omega⟩ | (omega) | exact absurd trivial ‹¬ True›
        · intro c1; (try simp only [Int.toNat_natCast] at c1); first | omega | (exfalso; omega) | exact ⟨by omega, by omega⟩ | (omega) | exact absurd trivial ‹¬ True›
        · intro c1 c2; (try simp only [Int.toNat_natCast] at c1 c2); first | omega | (exfalso; omega) | exact ⟨by omega, by omega⟩ | (omega) | exact absurd trivial ‹¬ True›
        · intro c1 c2; (try simp only [Int.toNat_natCast] at c1 c2); first | (exfalso; omega) | exact absurd trivial ‹¬ True› | (exact nx _)
        · intro c1 c2; (try simp only [Int.toNat_natCast] at c1 c2); first | omega | (exfalso; omega) | exact ⟨by omega, by omega⟩ | (omega) | exact absurd trivial ‹¬ True›
        · intro c1 c2 c3; (try simp only [Int.toNat_natCast] at c1 c2 c3); first | omega | (exfalso; omega) | exact ⟨by omega, by omega⟩ | (omega) | exact absurd trivial ‹¬ True›
        · intro c1 c2 c3; (try simp only [Int.toNat_natCast] at c1 c2 c3); first | (exfalso; omega) | exact absurd trivial ‹¬ True› | (skip)
        · intro c1 c2 c3; (try simp only [Int.toNat_natCast] at c1 c2 c3); first | (exfalso; omega) | exact absurd trivial ‹¬ True› | (skip)
      · have b11 := b1.1
        have b12 := b1.2
        have z' : bs (rmC h f1) ((9 * r + c : Nat) : Int) s = ((9 * b + a : Nat) : Int) := by rw [eR]; exact e1
        have en' : (((9 * b + a : Nat) : Int)).toNat = 9 * b + a := Int.toNat_natCast _
        have ka := hk a b b1
        have kc := hk c r hb
        refine g_Is_touchesOther_2 h_f1 (fun q => by omega) (fun _ => by omega) (fun _ => by omega) (fun _ _ => by omega) (fun _ q => by omega) (fun _ _ => by omega) (fun _ _ _ => by omega) (fun _ _ q => ?_) (fun _ _ q => ?_)
        · rw [z', en, en', ka, kc] at q
          refine ih (s + 1) _ (by omega) (by omega) (fun s' s1 s2 c' r' b' e' => ?_)
          by_cases y : s' < s
          · exact pr s' s1 y c' r' b' e'
          · have y : s' = s := by omega
            rw [y, e1] at e'
            have := b'.1
            obtain ⟨rfl, rfl⟩ : c' = a ∧ r' = b := by omega
            exact q
        · rw [z', en, en', ka, kc] at q
          exact k1 ⟨⟨hb, rfl⟩, a, b, n1, b1, q⟩
  exact g_Is_touchesOther_0 h_f1 (key 4 0 _ (by omega) (by omega) (fun s' s1 s2 => by omega))
theorem c_Is_boardsAtBorder {Q : PQ} {h R : HP} {x2 : Int} {f1 : Nat} (h_f1 : isF f1) (eR : rmC h f1 = R) (W : WR R) (hk : ∀ c r, isB R c r → h 83 (9 * r + c) = rLand R c r)
    (k : Q (some (vi (cntC R (atB R x2)))) h) : Wp true i_Is_boardsAtBorder 0 [vr 82, vr f1, vi x2, vr 9999, vr 9999, vr 9999, vr 9999] [] h Q := by
  have w := W.1
  have dd := cdim eR
  have row : ∀ (d i r : Nat) (s : Int) (j6 : AV), (i : Int) + d = R 0 0 → (r : Int) < R 0 1 → (0 ≤ s ∧ s ≤ 9 * r + i) → (∀ j5 j6 : AV, Wp true i_Is_boardsAtBorder 5 [vr 82, vr f1, vi x2, vi (s + sumF (fun c => ind (atB R x2 c r)) d i), vi ((r : Int) + 1), j5, j6] [] h Q) → Wp true i_Is_boardsAtBorder 17 [vr 82, vr f1, vi x2, vi s, vi (r : Int), vi (i : Int), j6] [] h Q := by
    intro d
    induction d with
    | zero =>
      intro i r s j6 e hr hi kk
      simp only [sumF, Int.add_zero] at kk
      refine g_Is_boardsAtBorder_17 h_f1 ?_ ?_ ?_ ?_ ?_ ?_ ?_ ?_
      · intro c1; (try simp only [Int.toNat_natCast] at c1); first | omega | (exfalso; omega) | exact ⟨by omega, by omega⟩ | (omega) | exact absurd trivial ‹¬ True›
      · intro c1; (try simp only [Int.toNat_natCast] at c1); first | (exfalso; omega) | exact absurd trivial ‹¬ True› | (exact kk _ _)
      · intro c1; (try simp only [Int.toNat_natCast] at c1); first | omega | (exfalso; omega) | exact ⟨by omega, by omega⟩ | (omega) | exact absurd trivial ‹¬ True›
      · intro c1; (try simp only [Int.toNat_natCast] at c1); first | omega | (exfalso; omega) | exact ⟨by omega, by omega⟩ | (omega) | exact absurd trivial ‹¬ True›
      · intro c1; (try simp only [Int.toNat_natCast] at c1); first | omega | (exfalso; omega) | exact ⟨by omega, by omega⟩ | (omega) | exact absurd trivial ‹¬ True›
      · intro c1 c2; (try simp only [Int.toNat_natCast] at c1 c2); first | omega | (exfalso; omega) | exact ⟨by omega, by omega⟩ | (omega) | exact absurd trivial ‹¬ True›
      · intro c1 c2; (try simp only [Int.toNat_natCast] at c1 c2); first | (exfalso; omega) | exact absurd trivial ‹¬ True› | (skip)
      · intro c1 c2; (try simp only [Int.toNat_natCast] at c1 c2); first | (exfalso; omega) | exact absurd trivial ‹¬ True› | (skip)
    | succ d ih =>
      intro i r s j6 e hr hi kk
      have hb : isB R i r := ⟨by omega, hr⟩
      have e9 : ((r : Int) * 9 + (i : Int)).toNat = 9 * r + i := by omega
      have kb := hk i r hb
      have no : ¬ atB R x2 i r → ∀ j6, Wp true i_Is_boardsAtBorder 17 [vr 82, vr f1, vi x2, vi s, vi (r : Int), vi ((i : Int) + 1), j6] [] h Q := by
        intro q j6
        refine ih (i + 1) r s j6 (by omega) hr (by omega) (fun j5 j6 => ?_)
        have kk := kk j5 j6
        simp only [sumF, ind_f q] at kk
        rw [Int.zero_add] at kk
        exact kk
      refine g_Is_boardsAtBorder_17 h_f1 ?_ ?_ ?_ ?_ ?_ ?_ ?_ ?_
      · intro c1; (try simp only [Int.toNat_natCast] at c1); first | omega | (exfalso; omega) | exact ⟨by omega, by omega⟩ | (omega) | exact absurd trivial ‹¬ True›
      · intro c1; (try simp only [Int.toNat_natCast] at c1); first | (exfalso; omega) | exact absurd trivial ‹¬ True› | (skip)
      · intro c1; (try simp only [Int.toNat_natCast] at c1); first | omega | (exfalso; omega) | exact ⟨by omega, by omega⟩ | (omega) | exact absurd trivial ‹¬ True›
      · intro c1; (try simp only [Int.toNat_natCast] at c1); first | omega | (exfalso; omega) | exact ⟨by omega, by omega⟩ | (omega) | exact absurd trivial ‹¬ True›
      · intro c1; (try simp only [Int.toNat_natCast] at c1); first | omega | (exfalso; omega) | exact ⟨by omega, by omega⟩ | (omega) | exact absurd trivial ‹¬ True›
      · intro c1 c2; (try simp only [Int.toNat_natCast] at c1 c2); first | omega | (exfalso; omega) | exact ⟨by omega, by omega⟩ | (omega) | exact absurd trivial ‹¬ True›
      · intro c1 c2; (try simp only [Int.toNat_natCast] at c1 c2)
        rw [e9, kb] at c2
        exact no (fun q => c2 q.1.2) _
      · intro c1 c2; (try simp only [Int.toNat_natCast] at c1 c2)
        rw [e9, kb] at c2
        refine c_Is_touchesOther h_f1 eR W hb (by omega) hk (fun q => ?_) (fun q => ?_)
        · rw [c2] at q
          refine g_Is_boardsAtBorder_53 h_f1 (fun z => absurd z (by decide)) (fun z => absurd z (by decide)) (fun _ => by omega) (fun _ => by omega) (fun _ => ?_)
          refine ih (i + 1) r (s + 1) _ (by omega) hr (by omega) (fun j5 j6 => ?_)
          have kk := kk j5 j6
          simp only [sumF, ind_t q] at kk
          rw [Int.add_assoc]
          exact kk
        · rw [c2] at q
          exact g_Is_boardsAtBorder_53 h_f1 (fun _ => by omega) (fun _ => no q _) (fun z => absurd rfl z) (fun z => absurd rfl z) (fun z => absurd rfl z)
  have all : ∀ (d r : Nat) (s : Int) (j5 j6 : AV), (r : Int) + d = R 0 1 → (0 ≤ s ∧ s ≤ 9 * r) → Q (some (vi (s + sumF (fun r => sumF (fun c => ind (atB R x2 c r)) (R 0 0).toNat 0) d r))) h → Wp true i_Is_boardsAtBorder 5 [vr 82, vr f1, vi x2, vi s, vi (r : Int), j5, j6] [] h Q := by
    intro d
    induction d with
    | zero =>
      intro r s j5 j6 e hi kk
      simp only [sumF, Int.add_zero] at kk
      exact g_Is_boardsAtBorder_5 h_f1 (fun _ => kk) (fun q => by omega)
    | succ d ih =>
      intro r s j5 j6 e hi kk
      have rr := sumI_rg (fun c => atB R x2 c r) (R 0 0).toNat 0
      refine g_Is_boardsAtBorder_5 h_f1 (fun q => by omega) (fun _ => ?_)
      refine row (R 0 0).toNat 0 r s j6 (by omega) (by omega) (by omega) (fun j5 j6 => ?_)
      refine ih (r + 1) _ j5 j6 (by omega) (by omega) ?_
      simp only [sumF] at kk
      rw [Int.add_assoc]
      exact kk
  refine g_Is_boardsAtBorder_0 h_f1 (all (R 0 1).toNat 0 0 _ _ (by omega) (by omega) ?_)
  rw [Int.zero_add]
  exact k
theorem A_border {n : Nat} {h : HP} {x1 : Int} (hR : Rel n h) : Agree n h i_C_border i_M_border [vr 0, vi x1] [vr 103, vi x1, vr 9999, vr 9999, vr 9999, vr 9999] := by
  have s := hR.2.2.2.2.2.1
  have W := s.2.1
  have w := W.1
  by_cases c : x1 = 0 ∨ x1 = 1
  · refine ag_scr (v := vi (cntC (rmC h 10) (atB (rmC h 10) x1))) (st := 0) hR (fun Q k => ?_) (fun g Q e gk k => ?_)
    · refine g_C_border_0 (fun _ => ?_) (fun q => absurd c q)
      refine c_Is_survey isF_10 rfl W (fun h1 f V => ?_)
      refine g_C_border_24 ?_
      refine c_Is_boardsAtBorder isF_10 (rC_frame isF_10 (fun k hk => f k (by omega))) W V.1 ?_
      exact g_C_border_37 (k h1 (fun k hk => f k (by omega)))
    · obtain ⟨R, eR⟩ : ∃ R, R = rmC h 10 := ⟨_, rfl⟩
      rw [← eR] at W w e k
      have d := mdim e
      refine g_M_border_0 (fun _ => ?_) (fun q => absurd c q)
      have ways : ∀ (d : Nat) (m : Nat) (wy s f : Int), 0 ≤ wy → wy + d = 4 → m < 70 → (0 ≤ s ∧ s ≤ m) → SL R x1 (m % 10) (m / 10) → (f = 0 ∨ f = 1) →
          (f = 1 → atB R x1 (m % 10) (m / 10)) → (f = 0 → ∀ w', 0 ≤ w' → w' < wy → ∀ c' r', isB R c' r' → mbs R (m : Int) w' = ((10 * r' + c' : Nat) : Int) → rLand R c' r' = x1) →
          (∀ j4 j5 : AV, Wp true i_M_border 17 [vr 103, vi x1, vi (s + ind (atB R x1 (m % 10) (m / 10))), vi ((m : Int) + 1), j4, j5] [] g Q) → Wp true i_M_border 41 [vr 103, vi x1, vi s, vi (m : Int), vi f, vi wy] [] g Q := by
        intro d'
        induction d' with
        | zero =>
          intro m wy s f w0 e1 hm hs' sm hf p1 p0 kk
          rcases hf with rfl | rfl
          · have na : ¬ atB R x1 (m % 10) (m / 10) := by
              intro q
              obtain ⟨-, c', r', n', b', l'⟩ := q
              obtain ⟨s', s1, s2⟩ := nb_mbs W sm.1 b' n'
              rw [show 10 * (m / 10) + m % 10 = m by omega] at s2
              exact l' (p0 rfl s' s1.1 (by omega) c' r' b' s2)
            have kk := kk (vi 0) (vi wy)
            rw [ind_f na] at kk
            refine g_M_border_41 ?_ ?_ ?_ ?_ ?_ ?_ ?_ ?_ ?_ ?_ ?_ ?_ ?_ ?_ ?_ ?_ ?_ ?_
            · intro c1 c2; (try simp only [Int.toNat_natCast] at c1 c2); first | omega | (exfalso; omega) | exact ⟨by omega, by omega⟩ | (omega) | exact absurd trivial ‹¬ True›
            · intro c1 c2; (try simp only [Int.toNat_natCast] at c1 c2); first | omega | (exfalso; omega) | exact ⟨by omega, by omega⟩ | (omega) | exact absurd trivial ‹¬ True›
            · intro c1 c2; (try simp only [Int.toNat_natCast] at c1 c2); first | (exfalso; omega) | exact absurd trivial ‹¬ True› | (exact kk)
            · intro c1 c2; (try simp only [Int.toNat_natCast] at c1 c2); first | omega | (exfalso; omega) | exact ⟨by omega, by omega⟩ | (omega) | exact absurd trivial ‹¬ True›
            · intro c1 c2; (try simp only [Int.toNat_natCast] at c1 c2); first | omega | (exfalso; omega) | exact ⟨by omega, by omega⟩ | (omega) | exact absurd trivial ‹¬ True›
            · intro c1 c2; (try simp only [Int.toNat_natCast] at c1 c2); first | (exfalso; omega) | exact absurd trivial ‹¬ True› | (skip)
            · intro c1 c2; (try simp only [Int.toNat_natCast] at c1 c2); first | omega | (exfalso; omega) | exact ⟨by omega, by omega⟩ | (omega) | exact absurd trivial ‹¬ True›
            · intro c1 c2; (try simp only [Int.toNat_natCast] at c1 c2); first | (exfalso; omega) | exact absurd trivial ‹¬ True› | (skip)
            · intro c1 c2; (try simp only [Int.toNat_natCast] at c1 c2); first | omega | (exfalso; omega) | exact ⟨by omega, by omega⟩ | (omega) | exact absurd trivial ‹¬ True›
            · intro c1 c2; (try simp only [Int.toNat_natCast] at c1 c2); first | omega | (exfalso; omega) | exact ⟨by omega, by omega⟩ | (omega) | exact absurd trivial ‹¬ True›
            · intro c1 c2 c3; (try simp only [Int.toNat_natCast] at c1 c2 c3); first | omega | (exfalso; omega) | exact ⟨by omega, by omega⟩ | (omega) | exact absurd trivial ‹¬ True›
            · intro c1 c2 c3; (try simp only [Int.toNat_natCast] at c1 c2 c3); first | (exfalso; omega) | exact absurd trivial ‹¬ True› | (skip)
            · intro c1 c2 c3; (try simp only [Int.toNat_natCast] at c1 c2 c3); first | omega | (exfalso; omega) | exact ⟨by omega, by omega⟩ | (omega) | exact absurd trivial ‹¬ True›
            · intro c1 c2 c3; (try simp only [Int.toNat_natCast] at c1 c2 c3); first | omega | (exfalso; omega) | exact ⟨by omega, by omega⟩ | (omega) | exact absurd trivial ‹¬ True›
            · intro c1 c2 c3 c4; (try simp only [Int.toNat_natCast] at c1 c2 c3 c4); first | omega | (exfalso; omega) | exact ⟨by omega, by omega⟩ | (omega) | exact absurd trivial ‹¬ True›
            · intro c1 c2 c3 c4; (try simp only [Int.toNat_natCast] at c1 c2 c3 c4); first | (exfalso; omega) | exact absurd trivial ‹¬ True› | (skip)
            · intro c1 c2 c3 c4; (try simp only [Int.toNat_natCast] at c1 c2 c3 c4); first | omega | (exfalso; omega) | exact ⟨by omega, by omega⟩ | (omega) | exact absurd trivial ‹¬ True›
            · intro c1 c2 c3 c4; (try simp only [Int.toNat_natCast] at c1 c2 c3 c4); first | (exfalso; omega) | exact absurd trivial ‹¬ True› | (skip)
          · have kk := kk (vi 1) (vi wy)
            rw [ind_t (p1 rfl)] at kk
            refine g_M_border_41 ?_ ?_ ?_ ?_ ?_ ?_ ?_ ?_ ?_ ?_ ?_ ?_ ?_ ?_ ?_ ?_ ?_ ?_
            · intro c1 c2; (try simp only [Int.toNat_natCast] at c1 c2); first | omega | (exfalso; omega) | exact ⟨by omega, by omega⟩ | (omega) | exact absurd trivial ‹¬ True›
            · intro c1 c2; (try simp only [Int.toNat_natCast] at c1 c2); first | omega | (exfalso; omega) | exact ⟨by omega, by omega⟩ | (omega) | exact absurd trivial ‹¬ True›
            · intro c1 c2; (try simp only [Int.toNat_natCast] at c1 c2); first | (exfalso; omega) | exact absurd trivial ‹¬ True› | (skip)
            · intro c1 c2; (try simp only [Int.toNat_natCast] at c1 c2); first | omega | (exfalso; omega) | exact ⟨by omega, by omega⟩ | (omega) | exact absurd trivial ‹¬ True›
            · intro c1 c2; (try simp only [Int.toNat_natCast] at c1 c2); first | omega | (exfalso; omega) | exact ⟨by omega, by omega⟩ | (omega) | exact absurd trivial ‹¬ True›
            · intro c1 c2; (try simp only [Int.toNat_natCast] at c1 c2); first | (exfalso; omega) | exact absurd trivial ‹¬ True› | (exact kk)
            · intro c1 c2; (try simp only [Int.toNat_natCast] at c1 c2); first | omega | (exfalso; omega) | exact ⟨by omega, by omega⟩ | (omega) | exact absurd trivial ‹¬ True›
            · intro c1 c2; (try simp only [Int.toNat_natCast] at c1 c2); first | (exfalso; omega) | exact absurd trivial ‹¬ True› | (skip)
            · intro c1 c2; (try simp only [Int.toNat_natCast] at c1 c2); first | omega | (exfalso; omega) | exact ⟨by omega, by omega⟩ | (omega) | exact absurd trivial ‹¬ True›
            · intro c1 c2; (try simp only [Int.toNat_natCast] at c1 c2); first | omega | (exfalso; omega) | exact ⟨by omega, by omega⟩ | (omega) | exact absurd trivial ‹¬ True›
            · intro c1 c2 c3; (try simp only [Int.toNat_natCast] at c1 c2 c3); first | omega | (exfalso; omega) | exact ⟨by omega, by omega⟩ | (omega) | exact absurd trivial ‹¬ True›
            · intro c1 c2 c3; (try simp only [Int.toNat_natCast] at c1 c2 c3); first | (exfalso; omega) | exact absurd trivial ‹¬ True› | (skip)
            · intro c1 c2 c3; (try simp only [Int.toNat_natCast] at c1 c2 c3); first | omega | (exfalso; omega) | exact ⟨by omega, by omega⟩ | (omega) | exact absurd trivial ‹¬ True›
            · intro c1 c2 c3; (try simp only [Int.toNat_natCast] at c1 c2 c3); first | omega | (exfalso; omega) | exact ⟨by omega, by omega⟩ | (omega) | exact absurd trivial ‹¬ True›
            · intro c1 c2 c3 c4; (try simp only [Int.toNat_natCast] at c1 c2 c3 c4); first | omega | (exfalso; omega) | exact ⟨by omega, by omega⟩ | (omega) | exact absurd trivial ‹¬ True›
            · intro c1 c2 c3 c4; (try simp only [Int.toNat_natCast] at c1 c2 c3 c4); first | (exfalso; omega) | exact absurd trivial ‹¬ True› | (skip)
            · intro c1 c2 c3 c4; (try simp only [Int.toNat_natCast] at c1 c2 c3 c4); first | omega | (exfalso; omega) | exact ⟨by omega, by omega⟩ | (omega) | exact absurd trivial ‹¬ True›
            · intro c1 c2 c3 c4; (try simp only [Int.toNat_natCast] at c1 c2 c3 c4); first | (exfalso; omega) | exact absurd trivial ‹¬ True› | (skip)
        | succ d' ih =>
          intro m wy s f w0 e1 hm hs' sm hf p1 p0 kk
          rcases hf with rfl | rfl
          · have bsv := mbs_nb W sm.1 (s := wy) (by omega)
            rw [show 10 * (m / 10) + m % 10 = m by omega] at bsv
            rcases bsv with z | ⟨cc, rr, n1, b1, e2⟩
            · have nx := ih m (wy + 1) s 0 (by omega) (by omega) hm hs' sm (Or.inl rfl) p1 (fun _ w' w1 w2 c' r' b' e' => by
                by_cases y : w' < wy
                · exact p0 rfl w' w1 y c' r' b' e'
                · have y : w' = wy := by omega
                  rw [y, z] at e'
                  omega) kk
              have z' : mbs (rmM g 0) (m : Int) wy = -1 := by rw [e]; exact z
              refine g_M_border_41 ?_ ?_ ?_ ?_ ?_ ?_ ?_ ?_ ?_ ?_ ?_ ?_ ?_ ?_ ?_ ?_ ?_ ?_
              · intro c1 c2; (try simp only [Int.toNat_natCast] at c1 c2); first | omega | (exfalso; omega) | exact ⟨by omega, by omega⟩ | ((rw [e]; exact W)) | exact absurd trivial ‹¬ True›
              · intro c1 c2; (try simp only [Int.toNat_natCast] at c1 c2); first | omega | (exfalso; omega) | exact ⟨by omega, by omega⟩ | ((rw [e]; exact W)) | exact absurd trivial ‹¬ True›
              · intro c1 c2; (try simp only [Int.toNat_natCast] at c1 c2); first | (exfalso; omega) | exact absurd trivial ‹¬ True› | (skip)
              · intro c1 c2; (try simp only [Int.toNat_natCast] at c1 c2); first | omega | (exfalso; omega) | exact ⟨by omega, by omega⟩ | ((rw [e]; exact W)) | exact absurd trivial ‹¬ True›
              · intro c1 c2; (try simp only [Int.toNat_natCast] at c1 c2); first | omega | (exfalso; omega) | exact ⟨by omega, by omega⟩ | ((rw [e]; exact W)) | exact absurd trivial ‹¬ True›
              · intro c1 c2; (try simp only [Int.toNat_natCast] at c1 c2); first | (exfalso; omega) | exact absurd trivial ‹¬ True› | (skip)
              · intro c1 c2; (try simp only [Int.toNat_natCast] at c1 c2); first | omega | (exfalso; omega) | exact ⟨by omega, by omega⟩ | ((rw [e]; exact W)) | exact absurd trivial ‹¬ True›
              · intro c1 c2; (try simp only [Int.toNat_natCast] at c1 c2); first | (exfalso; omega) | exact absurd trivial ‹¬ True› | (skip)
              · intro c1 c2; (try simp only [Int.toNat_natCast] at c1 c2); first | omega | (exfalso; omega) | exact ⟨by omega, by omega⟩ | ((rw [e]; exact W)) | exact absurd trivial ‹¬ True›
              · intro c1 c2; (try simp only [Int.toNat_natCast] at c1 c2); first | omega | (exfalso; omega) | exact ⟨by omega, by omega⟩ | ((rw [e]; exact W)) | exact absurd trivial ‹¬ True›
              · intro c1 c2 c3; (try simp only [Int.toNat_natCast] at c1 c2 c3); first | omega | (exfalso; omega) | exact ⟨by omega, by omega⟩ | ((rw [e]; exact W)) | exact absurd trivial ‹¬ True›
              · intro c1 c2 c3; (try simp only [Int.toNat_natCast] at c1 c2 c3); first | (exfalso; omega) | exact absurd trivial ‹¬ True› | (exact nx)
              · intro c1 c2 c3; (try simp only [Int.toNat_natCast] at c1 c2 c3); first | omega | (exfalso; omega) | exact ⟨by omega, by omega⟩ | ((rw [e]; exact W)) | exact absurd trivial ‹¬ True›
              · intro c1 c2 c3; (try simp only [Int.toNat_natCast] at c1 c2 c3); first | omega | (exfalso; omega) | exact ⟨by omega, by omega⟩ | ((rw [e]; exact W)) | exact absurd trivial ‹¬ True›
              · intro c1 c2 c3 c4; (try simp only [Int.toNat_natCast] at c1 c2 c3 c4); first | omega | (exfalso; omega) | exact ⟨by omega, by omega⟩ | ((rw [e]; exact W)) | exact absurd trivial ‹¬ True›
              · intro c1 c2 c3 c4; (try simp only [Int.toNat_natCast] at c1 c2 c3 c4); first | (exfalso; omega) | exact absurd trivial ‹¬ True› | (skip)
              · intro c1 c2 c3 c4; (try simp only [Int.toNat_natCast] at c1 c2 c3 c4); first | omega | (exfalso; omega) | exact ⟨by omega, by omega⟩ | ((rw [e]; exact W)) | exact absurd trivial ‹¬ True›
              · intro c1 c2 c3 c4; (try simp only [Int.toNat_natCast] at c1 c2 c3 c4); first | (exfalso; omega) | exact absurd trivial ‹¬ True› | (skip)
            · have b11 := b1.1
              have b12 := b1.2
              have z' : mbs (rmM g 0) (m : Int) wy = ((10 * rr + cc : Nat) : Int) := by rw [e]; exact e2
              have bo := bo_iff (m := 10 * rr + cc) (l := x1) e
              have em1 : (10 * rr + cc) % 10 = cc := by omega
              have em2 : (10 * rr + cc) / 10 = rr := by omega
              rw [em1, em2] at bo
              have yes := fun (q : rLand R cc rr = x1) => ih m (wy + 1) s 0 (by omega) (by omega) hm hs' sm (Or.inl rfl) p1 (fun _ w' w1 w2 c' r' b' e' => by
                by_cases y : w' < wy
                · exact p0 rfl w' w1 y c' r' b' e'
                · have y : w' = wy := by omega
                  rw [y, e2] at e'
                  have := b'.1
                  obtain ⟨rfl, rfl⟩ : c' = cc ∧ r' = rr := by omega
                  exact q) kk
              have no := fun (q : ¬ rLand R cc rr = x1) => ih m (wy + 1) s 1 (by omega) (by omega) hm hs' sm (Or.inr rfl) (fun _ => ⟨sm, cc, rr, n1, b1, q⟩) (fun z => absurd z (by decide)) kk
              refine g_M_border_41 ?_ ?_ ?_ ?_ ?_ ?_ ?_ ?_ ?_ ?_ ?_ ?_ ?_ ?_ ?_ ?_ ?_ ?_
              · intro c1 c2; (try simp only [Int.toNat_natCast] at c1 c2); first | omega | (exfalso; omega) | exact ⟨by omega, by omega⟩ | ((rw [e]; exact W)) | exact absurd trivial ‹¬ True›
              · intro c1 c2; (try simp only [Int.toNat_natCast] at c1 c2); first | omega | (exfalso; omega) | exact ⟨by omega, by omega⟩ | ((rw [e]; exact W)) | exact absurd trivial ‹¬ True›
              · intro c1 c2; (try simp only [Int.toNat_natCast] at c1 c2); first | (exfalso; omega) | exact absurd trivial ‹¬ True› | (skip)
              · intro c1 c2; (try simp only [Int.toNat_natCast] at c1 c2); first | omega | (exfalso; omega) | exact ⟨by omega, by omega⟩ | ((rw [e]; exact W)) | exact absurd trivial ‹¬ True›
              · intro c1 c2; (try simp only [Int.toNat_natCast] at c1 c2); first | omega | (exfalso; omega) | exact ⟨by omega, by omega⟩ | ((rw [e]; exact W)) | exact absurd trivial ‹¬ True›
              · intro c1 c2; (try simp only [Int.toNat_natCast] at c1 c2); first | (exfalso; omega) | exact absurd trivial ‹¬ True› | (skip)
              · intro c1 c2; (try simp only [Int.toNat_natCast] at c1 c2); first | omega | (exfalso; omega) | exact ⟨by omega, by omega⟩ | ((rw [e]; exact W)) | exact absurd trivial ‹¬ True›
              · intro c1 c2; (try simp only [Int.toNat_natCast] at c1 c2); first | (exfalso; omega) | exact absurd trivial ‹¬ True› | (skip)
              · intro c1 c2; (try simp only [Int.toNat_natCast] at c1 c2); first | omega | (exfalso; omega) | exact ⟨by omega, by omega⟩ | ((rw [e]; exact W)) | exact absurd trivial ‹¬ True›
              · intro c1 c2; (try simp only [Int.toNat_natCast] at c1 c2); first | omega | (exfalso; omega) | exact ⟨by omega, by omega⟩ | ((rw [e]; exact W)) | exact absurd trivial ‹¬ True›
              · intro c1 c2 c3; (try simp only [Int.toNat_natCast] at c1 c2 c3); first | omega | (exfalso; omega) | exact ⟨by omega, by omega⟩ | ((rw [e]; exact W)) | exact absurd trivial ‹¬ True›
              · intro c1 c2 c3; (try simp only [Int.toNat_natCast] at c1 c2 c3); first | (exfalso; omega) | exact absurd trivial ‹¬ True› | (skip)
              · intro c1 c2 c3; (try simp only [Int.toNat_natCast] at c1 c2 c3); first | omega | (exfalso; omega) | exact ⟨by omega, by omega⟩ | ((rw [e]; exact W)) | exact absurd trivial ‹¬ True›
              · intro c1 c2 c3; (try simp only [Int.toNat_natCast] at c1 c2 c3); first | omega | (exfalso; omega) | exact ⟨by omega, by omega⟩ | ((rw [e]; exact W)) | exact absurd trivial ‹¬ True›
              · intro c1 c2 c3 c4; (try simp only [Int.toNat_natCast] at c1 c2 c3 c4); first | omega | (exfalso; omega) | exact ⟨by omega, by omega⟩ | ((rw [e]; exact W)) | exact absurd trivial ‹¬ True›
              · intro c1 c2 c3 c4; (try simp only [Int.toNat_natCast] at c1 c2 c3 c4); first | (exfalso; omega) | exact absurd trivial ‹¬ True› | (rw [z'] at c4; exact yes (bo.mp c4).2)
              · intro c1 c2 c3 c4; (try simp only [Int.toNat_natCast] at c1 c2 c3 c4); first | omega | (exfalso; omega) | exact ⟨by omega, by omega⟩ | ((rw [e]; exact W)) | exact absurd trivial ‹¬ True›
              · intro c1 c2 c3 c4; (try simp only [Int.toNat_natCast] at c1 c2 c3 c4); first | (exfalso; omega) | exact absurd trivial ‹¬ True› | (rw [z'] at c4; exact no (fun q => c4 (bo.mpr ⟨b1, q⟩)))
          · have nx := ih m (wy + 1) s 1 (by omega) (by omega) hm hs' sm (Or.inr rfl) p1 (fun z => absurd z (by decide)) kk
            refine g_M_border_41 ?_ ?_ ?_ ?_ ?_ ?_ ?_ ?_ ?_ ?_ ?_ ?_ ?_ ?_ ?_ ?_ ?_ ?_
            · intro c1 c2; (try simp only [Int.toNat_natCast] at c1 c2); first | omega | (exfalso; omega) | exact ⟨by omega, by omega⟩ | (omega) | exact absurd trivial ‹¬ True›
            · intro c1 c2; (try simp only [Int.toNat_natCast] at c1 c2); first | omega | (exfalso; omega) | exact ⟨by omega, by omega⟩ | (omega) | exact absurd trivial ‹¬ True›
            · intro c1 c2; (try simp only [Int.toNat_natCast] at c1 c2); first | (exfalso; omega) | exact absurd trivial ‹¬ True› | (skip)
            · intro c1 c2; (try simp only [Int.toNat_natCast] at c1 c2); first | omega | (exfalso; omega) | exact ⟨by omega, by omega⟩ | (omega) | exact absurd trivial ‹¬ True›
            · intro c1 c2; (try simp only [Int.toNat_natCast] at c1 c2); first | omega | (exfalso; omega) | exact ⟨by omega, by omega⟩ | (omega) | exact absurd trivial ‹¬ True›
            · intro c1 c2; (try simp only [Int.toNat_natCast] at c1 c2); first | (exfalso; omega) | exact absurd trivial ‹¬ True› | (skip)
            · intro c1 c2; (try simp only [Int.toNat_natCast] at c1 c2); first | omega | (exfalso; omega) | exact ⟨by omega, by omega⟩ | (omega) | exact absurd trivial ‹¬ True›
            · intro c1 c2; (try simp only [Int.toNat_natCast] at c1 c2); first | (exfalso; omega) | exact absurd trivial ‹¬ True› | (exact nx)
            · intro c1 c2; (try simp only [Int.toNat_natCast] at c1 c2); first | omega | (exfalso; omega) | exact ⟨by omega, by omega⟩ | (omega) | exact absurd trivial ‹¬ True›
            · intro c1 c2; (try simp only [Int.toNat_natCast] at c1 c2); first | omega | (exfalso; omega) | exact ⟨by omega, by omega⟩ | (omega) | exact absurd trivial ‹¬ True›
            · intro c1 c2 c3; (try simp only [Int.toNat_natCast] at c1 c2 c3); first | omega | (exfalso; omega) | exact ⟨by omega, by omega⟩ | (omega) | exact absurd trivial ‹¬ True›
            · intro c1 c2 c3; (try simp only [Int.toNat_natCast] at c1 c2 c3); first | (exfalso; omega) | exact absurd trivial ‹¬ True› | (skip)
            · intro c1 c2 c3; (try simp only [Int.toNat_natCast] at c1 c2 c3); first | omega | (exfalso; omega) | exact ⟨by omega, by omega⟩ | (omega) | exact absurd trivial ‹¬ True›
            · intro c1 c2 c3; (try simp only [Int.toNat_natCast] at c1 c2 c3); first | omega | (exfalso; omega) | exact ⟨by omega, by omega⟩ | (omega) | exact absurd trivial ‹¬ True›
            · intro c1 c2 c3 c4; (try simp only [Int.toNat_natCast] at c1 c2 c3 c4); first | omega | (exfalso; omega) | exact ⟨by omega, by omega⟩ | (omega) | exact absurd trivial ‹¬ True›
            · intro c1 c2 c3 c4; (try simp only [Int.toNat_natCast] at c1 c2 c3 c4); first | (exfalso; omega) | exact absurd trivial ‹¬ True› | (skip)
            · intro c1 c2 c3 c4; (try simp only [Int.toNat_natCast] at c1 c2 c3 c4); first | omega | (exfalso; omega) | exact ⟨by omega, by omega⟩ | (omega) | exact absurd trivial ‹¬ True›
            · intro c1 c2 c3 c4; (try simp only [Int.toNat_natCast] at c1 c2 c3 c4); first | (exfalso; omega) | exact absurd trivial ‹¬ True› | (skip)
      have all : ∀ (d m : Nat) (s : Int) (j4 j5 : AV), m + d = 70 → (0 ≤ s ∧ s ≤ m) → Q (some (vi (s + sumF (fun j => ind (atB R x1 (j % 10) (j / 10))) d m))) (hs g 103 2 0) → Wp true i_M_border 17 [vr 103, vi x1, vi s, vi (m : Int), j4, j5] [] g Q := by
        intro d'
        induction d' with
        | zero =>
          intro m s j4 j5 e1 hs' kk
          simp only [sumF, Int.add_zero] at kk
          refine g_M_border_17 ?_ ?_ ?_ ?_ ?_ ?_
          · intro c1; (try simp only [Int.toNat_natCast] at c1); first | (exfalso; omega) | exact absurd trivial ‹¬ True› | (exact kk)
          · intro c1; (try simp only [Int.toNat_natCast] at c1); first | omega | (exfalso; omega) | exact ⟨by omega, by omega⟩ | (omega) | exact absurd trivial ‹¬ True›
          · intro c1; (try simp only [Int.toNat_natCast] at c1); first | omega | (exfalso; omega) | exact ⟨by omega, by omega⟩ | (omega) | exact absurd trivial ‹¬ True›
          · intro c1 c2; (try simp only [Int.toNat_natCast] at c1 c2); first | (exfalso; omega) | exact absurd trivial ‹¬ True› | (skip)
          · intro c1 c2; (try simp only [Int.toNat_natCast] at c1 c2); first | omega | (exfalso; omega) | exact ⟨by omega, by omega⟩ | (omega) | exact absurd trivial ‹¬ True›
          · intro c1 c2; (try simp only [Int.toNat_natCast] at c1 c2); first | (exfalso; omega) | exact absurd trivial ‹¬ True› | (skip)
        | succ d' ih =>
          intro m s j4 j5 e1 hs' kk
          have bo := bo_iff (m := m) (l := x1) e
          simp only [sumF] at kk
          rw [← Int.add_assoc] at kk
          have ir := ind_rg (atB R x1 (m % 10) (m / 10))
          have nx := fun j4 j5 => ih (m + 1) _ j4 j5 (by omega) (by omega) kk
          have nx' : ∀ j4 j5 : AV, Wp true i_M_border 17 [vr 103, vi x1, vi (s + ind (atB R x1 (m % 10) (m / 10))), vi ((m : Int) + 1), j4, j5] [] g Q := nx
          refine g_M_border_17 ?_ ?_ ?_ ?_ ?_ ?_
          · intro c1; (try simp only [Int.toNat_natCast] at c1); first | (exfalso; omega) | exact absurd trivial ‹¬ True› | (skip)
          · intro c1; (try simp only [Int.toNat_natCast] at c1); first | omega | (exfalso; omega) | exact ⟨by omega, by omega⟩ | ((rw [e]; exact W)) | exact absurd trivial ‹¬ True›
          · intro c1; (try simp only [Int.toNat_natCast] at c1); first | omega | (exfalso; omega) | exact ⟨by omega, by omega⟩ | ((rw [e]; exact W)) | exact absurd trivial ‹¬ True›
          · intro c1 c2; (try simp only [Int.toNat_natCast] at c1 c2); first | (exfalso; omega) | exact absurd trivial ‹¬ True› | (exact ways 4 m 0 s 0 (by omega) (by omega) (by omega) hs' (bo.mp c2) (Or.inl rfl) (fun z => absurd z (by decide)) (fun _ w' w1 w2 => by omega) nx')
          · intro c1 c2; (try simp only [Int.toNat_natCast] at c1 c2); first | omega | (exfalso; omega) | exact ⟨by omega, by omega⟩ | ((rw [e]; exact W)) | exact absurd trivial ‹¬ True›
          · intro c1 c2; (try simp only [Int.toNat_natCast] at c1 c2)
            have nx2 := nx' j4 j5
            rw [ind_f (fun q => c2 (bo.mpr q.1)), Int.add_zero] at nx2
            exact nx2
      refine all 70 0 0 _ _ rfl (by omega) ?_
      have e70 : sumF (fun j => ind (atB R x1 (j % 10) (j / 10))) 70 0 = cntC R (atB R x1) := by
        refine @cnt70 R W (atB R x1) (fun _ _ => Classical.propDecidable _) _ (fun c r h1 h2 => ?_) (fun c r _ _ q => q.1.1)
        rw [show (10 * r + c) % 10 = c by omega, show (10 * r + c) / 10 = r by omega]
        rfl
      rw [Int.zero_add, e70]
      exact k g (ScM_0 (fun _ _ => rfl))
  · refine ag_act0 (v := vi (-1)) (st := 1) hR (fun Q k => ?_) (fun g Q e gk k => ?_)
    · exact g_C_border_0 (fun q => absurd q c) (fun _ => k)
    · exact g_M_border_0 (fun q => absurd q c) (fun _ => k)
