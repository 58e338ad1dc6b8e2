/-- the boards of the LAND are laid into the queue -/
def Ph1 (R : HP) (l : Int) (h h1 : HP) (c r : Nat) : Prop :=
  (∀ k, k ≠ 82 → k ≠ 84 → k ≠ 87 → k ≠ 88 → h1 k = h k) ∧ (∀ c' r', isB R c' r' → (r' < r ∨ (r' = r ∧ c' < c)) → (rLand R c' r' = l → h1 84 (9 * r' + c') = h 84 (9 * r' + c') ∧ h1 88 (9 * r' + c') = 0) ∧ (¬ rLand R c' r' = l → h1 84 (9 * r' + c') = -1)) ∧
  (∀ c' r', isB R c' r' → ¬ (r' < r ∨ (r' = r ∧ c' < c)) → h1 84 (9 * r' + c') = h 84 (9 * r' + c')) ∧
  (∀ j : Nat, (j : Int) < h1 82 6 → ∃ c' r', SL R l c' r' ∧ (r' < r ∨ (r' = r ∧ c' < c)) ∧ h1 87 j = ((9 * r' + c' : Nat) : Int)) ∧ (∀ c' r', SL R l c' r' → (r' < r ∨ (r' = r ∧ c' < c)) → ∃ j : Nat, (j : Int) < h1 82 6 ∧ h1 87 j = ((9 * r' + c' : Nat) : Int)) ∧
  h1 82 6 = cntC R (fun c' r' => SL R l c' r' ∧ (r' < r ∨ (r' = r ∧ c' < c)))
theorem cntC_upd {R : HP} {p q : Nat → Nat → Prop} {c0 r0 : Nat} (hb : isB R c0 r0) (hp : ¬ p c0 r0) (h : ∀ c r, isB R c r → (q c r ↔ p c r ∨ (c = c0 ∧ r = r0))) : cntC R q = cntC R p + 1 :=
  @cnt_upd R p q (fun _ _ => Classical.propDecidable _) (fun _ _ => Classical.propDecidable _) c0 r0 hb hp h
theorem cntC_congr {R : HP} {p q : Nat → Nat → Prop} (h : ∀ c r, isB R c r → (p c r ↔ q c r)) : cntC R p = cntC R q :=
  @cnt_congr R p q (fun _ _ => Classical.propDecidable _) (fun _ _ => Classical.propDecidable _) h
theorem cntC_rg {R : HP} (W : WR R) (p : Nat → Nat → Prop) : 0 ≤ cntC R p ∧ cntC R p ≤ 63 := @cnt_rg R W p (fun _ _ => Classical.propDecidable _)
theorem c_Is_narrowest {Q : PQ} {h R : HP} {x2 : Int} {f1 : Nat} (h_f1 : isF f1) (eR : rmC h f1 = R) (W : WR R) (V : Svy R h) (two : ∃ c r c' r', SL R x2 c r ∧ SL R x2 c' r' ∧ ¬ Cn (SL R x2) c r c' r')
    (k : ∀ h' v, (∀ k, k ≠ 82 → k ≠ 84 → k ≠ 87 → k ≠ 88 → h' k = h k) → strV R x2 = 100 * v → (0 ≤ v ∧ v ≤ 63) → Q (some (vi v)) h') : Wp true i_Is_narrowest 0 [vr 82, vr f1, vi x2, vr 9999, vr 9999, vr 9999, vr 9999, vr 9999] [] h Q := by
  have w := W.1
  have fl : f1 + 8 ≤ 82 := by unfold isF at h_f1; omega
  have lt : ∀ c r, isB R c r → 9 * r + c < 63 := fun c r q => by have := q.1; have := q.2; omega
  have un : ∀ c r c' r', isB R c r → isB R c' r' → 9 * r + c = 9 * r' + c' → c = c' ∧ r = r' := fun c r c' r' q1 q2 e => by have := q1.1; have := q2.1; omega
  have frr : ∀ h1 : HP, (∀ k, k ≠ 82 → k ≠ 84 → k ≠ 87 → k ≠ 88 → h1 k = h k) → rmC h1 f1 = R := fun h1 f => (rC_frame h_f1 (fun k hk => f k (by omega) (by omega) (by omega) (by omega))).trans eR
  have hpos : ∀ c r, SL R x2 c r → 0 ≤ h 84 (9 * r + c) := fun c r q => (V.2.2.1 c r q.1).1
  have hLb : ∀ c r c' r', SL R x2 c r → SL R x2 c' r' → (h 84 (9 * r + c) = h 84 (9 * r' + c') ↔ Cn (SL R x2) c r c' r') := by
    intro c r c' r' q1 q2
    have := V.2.2.2.1 c r c' r' q1.1 q2.1
    rw [q1.2, q2.2] at this
    exact this.trans ⟨fun z => z.2, fun z => ⟨rfl, z⟩⟩
  refine g_Is_narrowest_0 h_f1 ?_
  -- behind the search
  have rest : ∀ h1, (∀ k, k ≠ 82 → k ≠ 84 → k ≠ 87 → k ≠ 88 → h1 k = h k) → Vor R x2 (fun c r => h 84 (9 * r + c)) (fun c r => h1 84 (9 * r + c)) (fun c r => h1 88 (9 * r + c)) → (∀ j : Nat, (j : Int) < h1 82 6 → ∃ c r, isB R c r ∧ h1 87 j = ((9 * r + c : Nat) : Int)) → (∀ c r, isB R c r → ∃ j : Nat, (j : Int) < h1 82 6 ∧ h1 87 j = ((9 * r + c : Nat) : Int)) → (0 ≤ h1 82 6 ∧ h1 82 6 ≤ 63) →
      Wp true i_Is_narrowest 6 [vr 82, vr f1, vi x2, vr 9999, vr 9999, vr 9999, vr 9999, vr 9999] [] h1 Q := by
    intro h1 f Vo qb bq rr
    have e1 := frr h1 f
    -- the pairs that were looked at
    let Done : Int → Int → Nat → Nat → Int → Prop := fun m s c r s' => (∃ j : Nat, (j : Int) < m ∧ h1 87 j = ((9 * r + c : Nat) : Int)) ∨ (∃ j : Nat, (j : Int) = m ∧ h1 87 j = ((9 * r + c : Nat) : Int) ∧ s' < s)
    let Ok : Int → Int → Int → Prop := fun m s v => v ≤ 63 ∧ (∀ c r s' c' r', isB R c r → isB R c' r' → (s' = 0 ∨ s' = 1) → Done m s c r s' → bs R ((9 * r + c : Nat) : Int) s' = ((9 * r' + c' : Nat) : Int) → h1 84 (9 * r + c) ≠ h1 84 (9 * r' + c') → v ≤ h1 88 (9 * r + c) + h1 88 (9 * r' + c')) ∧
      (v = 63 ∨ ∃ c r c' r', isB R c r ∧ isB R c' r' ∧ nb c r c' r' ∧ h1 84 (9 * r + c) ≠ h1 84 (9 * r' + c') ∧ v = h1 88 (9 * r + c) + h1 88 (9 * r' + c'))
    have cst : ∀ c r, isB R c r → 0 ≤ h1 88 (9 * r + c) ∧ h1 88 (9 * r + c) ≤ 63 := fun c r q => by
      have := Vo.2.1 c r q
      exact ⟨this.1, this.2.1⟩
    have two' : ∀ (d : Nat) (s : Int) (m : Nat) (v : Int) (j7 : AV) (a b : Nat), 0 ≤ s → s + d = 2 → (m : Int) < h1 82 6 → isB R a b → h1 87 m = ((9 * b + a : Nat) : Int) → Ok (m : Int) s v →
        (∀ (v2 : Int) (j5 j6 j7 : AV), Ok ((m : Int) + 1) 0 v2 → Wp true i_Is_narrowest 12 [vr 82, vr f1, vi x2, vi v2, vi ((m : Int) + 1), j5, j6, j7] [] h1 Q) → Wp true i_Is_narrowest 33 [vr 82, vr f1, vi x2, vi v, vi (m : Int), vi ((9 * b + a : Nat) : Int), vi s, j7] [] h1 Q := by
      intro d
      induction d with
      | zero =>
        intro s m v j7 a b s0 e hm hab hq I kk
        have fin : Wp true i_Is_narrowest 12 [vr 82, vr f1, vi x2, vi v, vi ((m : Int) + 1), vi ((9 * b + a : Nat) : Int), vi s, j7] [] h1 Q := by
          refine kk v _ _ _ ⟨I.1, fun c r s' c' r' q1 q2 q3 q4 q5 q6 => I.2.1 c r s' c' r' q1 q2 q3 ?_ q5 q6, I.2.2⟩
          rcases q4 with ⟨j, j1, j2⟩ | ⟨j, j1, j2, j3⟩
          · by_cases z : (j : Int) < m
            · exact Or.inl ⟨j, z, j2⟩
            · exact Or.inr ⟨j, by omega, j2, by omega⟩
          · omega
        refine g_Is_narrowest_33 h_f1 ?_ ?_ ?_ ?_ ?_ ?_ ?_ ?_ ?_ ?_ ?_ ?_
        · intro c1; (try simp only [Int.toNat_natCast] at c1); first | omega | (exfalso; omega) | exact ⟨by omega, by omega⟩ | (omega) | exact absurd trivial ‹¬ True›
        · intro c1; (try simp only [Int.toNat_natCast] at c1); first | (exfalso; omega) | exact absurd trivial ‹¬ True› | (exact fin)
        · intro c1; (try simp only [Int.toNat_natCast] at c1); first | omega | (exfalso; omega) | exact ⟨by omega, by omega⟩ | (omega) | exact absurd trivial ‹¬ True›
        · intro c1; (try simp only [Int.toNat_natCast] at c1); first | omega | (exfalso; omega) | exact ⟨by omega, by omega⟩ | (omega) | exact absurd trivial ‹¬ True›
        · intro c1 c2; (try simp only [Int.toNat_natCast] at c1 c2); first | omega | (exfalso; omega) | exact ⟨by omega, by omega⟩ | (omega) | exact absurd trivial ‹¬ True›
        · intro c1 c2; (try simp only [Int.toNat_natCast] at c1 c2); first | (exfalso; omega) | exact absurd trivial ‹¬ True› | (skip)
        · intro c1 c2; (try simp only [Int.toNat_natCast] at c1 c2); first | omega | (exfalso; omega) | exact ⟨by omega, by omega⟩ | (omega) | exact absurd trivial ‹¬ True›
        · intro c1 c2 c3; (try simp only [Int.toNat_natCast] at c1 c2 c3); first | omega | (exfalso; omega) | exact ⟨by omega, by omega⟩ | (omega) | exact absurd trivial ‹¬ True›
        · intro c1 c2 c3; (try simp only [Int.toNat_natCast] at c1 c2 c3); first | (exfalso; omega) | exact absurd trivial ‹¬ True› | (skip)
        · intro c1 c2 c3; (try simp only [Int.toNat_natCast] at c1 c2 c3); first | omega | (exfalso; omega) | exact ⟨by omega, by omega⟩ | (omega) | exact absurd trivial ‹¬ True›
        · intro c1 c2 c3; (try simp only [Int.toNat_natCast] at c1 c2 c3); first | omega | (exfalso; omega) | exact ⟨by omega, by omega⟩ | (omega) | exact absurd trivial ‹¬ True›
        · intro c1 c2 c3; (try simp only [Int.toNat_natCast] at c1 c2 c3); first | (exfalso; omega) | exact absurd trivial ‹¬ True› | (skip)
      | succ d ih =>
        intro s m v j7 a b s0 e hm hab hq I kk
        have gl := lt a b hab
        have en0 : (((9 * b + a : Nat) : Int)).toNat = 9 * b + a := Int.toNat_natCast _
        have ca := cst a b hab
        have next : ∀ (v2 : Int) (j7 : AV), v2 ≤ v → (v2 = v ∨ ∃ c' r', isB R c' r' ∧ nb a b c' r' ∧ h1 84 (9 * b + a) ≠ h1 84 (9 * r' + c') ∧ v2 = h1 88 (9 * b + a) + h1 88 (9 * r' + c')) → (∀ c' r', isB R c' r' → bs R ((9 * b + a : Nat) : Int) s = ((9 * r' + c' : Nat) : Int) → h1 84 (9 * b + a) ≠ h1 84 (9 * r' + c') → v2 ≤ h1 88 (9 * b + a) + h1 88 (9 * r' + c')) → Wp true i_Is_narrowest 33 [vr 82, vr f1, vi x2, vi v2, vi (m : Int), vi ((9 * b + a : Nat) : Int), vi (s + 1), j7] [] h1 Q := by
          intro v2 j7 le ex lo
          refine ih (s + 1) m v2 j7 a b (by omega) (by omega) hm hab hq ⟨by have := I.1; omega, fun c r s' c' r' q1 q2 q3 q4 q5 q6 => ?_, ?_⟩ kk
          · rcases q4 with ⟨j, j1, j2⟩ | ⟨j, j1, j2, j3⟩
            · have := I.2.1 c r s' c' r' q1 q2 q3 (Or.inl ⟨j, j1, j2⟩) q5 q6
              omega
            · by_cases z : s' < s
              · have := I.2.1 c r s' c' r' q1 q2 q3 (Or.inr ⟨j, j1, j2, z⟩) q5 q6
                omega
              · have z : s' = s := by omega
                have jm : j = m := by omega
                subst jm
                obtain ⟨rfl, rfl⟩ := un c r a b q1 hab (by omega)
                rw [z] at q5
                exact lo c' r' q2 q5 q6
          · rcases ex with z | ⟨c', r', z1, z2, z3, z4⟩
            · rw [z]; exact I.2.2
            · exact Or.inr ⟨a, b, c', r', hab, z1, z2, z3, z4⟩
        rcases bs_nb W hab (s := s) (by omega) with z | ⟨cc, rr', n1, n2, n3⟩
        · have z' : bs (rmC h1 f1) ((9 * b + a : Nat) : Int) s = -1 := by rw [e1]; exact z
          have nx := fun j7 => next v j7 (Int.le_refl _) (Or.inl rfl) (fun c' r' q1 q2 => by rw [z] at q2; omega)
          refine g_Is_narrowest_33 h_f1 ?_ ?_ ?_ ?_ ?_ ?_ ?_ ?_ ?_ ?_ ?_ ?_
          · intro c1; (try simp only [Int.toNat_natCast] at c1); first | omega | (exfalso; omega) | exact ⟨by omega, by omega⟩ | (omega) | exact absurd trivial ‹¬ True›
          · intro c1; (try simp only [Int.toNat_natCast] at c1); first | (exfalso; omega) | exact absurd trivial ‹¬ True› | (skip)
          · intro c1; (try simp only [Int.toNat_natCast] at c1); first | omega | (exfalso; omega) | exact ⟨by omega, by omega⟩ | (omega) | exact absurd trivial ‹¬ True›
          · intro c1; (try simp only [Int.toNat_natCast] at c1); first | omega | (exfalso; omega) | exact ⟨by omega, by omega⟩ | (omega) | exact absurd trivial ‹¬ True›
          · intro c1 c2; (try simp only [Int.toNat_natCast] at c1 c2); first | omega | (exfalso; omega) | exact ⟨by omega, by omega⟩ | (omega) | exact absurd trivial ‹¬ True›
          · intro c1 c2; (try simp only [Int.toNat_natCast] at c1 c2); first | (exfalso; omega) | exact absurd trivial ‹¬ True› | (exact nx _)
          · intro c1 c2; (try simp only [Int.toNat_natCast] at c1 c2); first | omega | (exfalso; omega) | exact ⟨by omega, by omega⟩ | (omega) | exact absurd trivial ‹¬ True›
          · intro c1 c2 c3; (try simp only [Int.toNat_natCast] at c1 c2 c3); first | omega | (exfalso; omega) | exact ⟨by omega, by omega⟩ | (omega) | exact absurd trivial ‹¬ True›
          · intro c1 c2 c3; (try simp only [Int.toNat_natCast] at c1 c2 c3); first | (exfalso; omega) | exact absurd trivial ‹¬ True› | (skip)
          · intro c1 c2 c3; (try simp only [Int.toNat_natCast] at c1 c2 c3); first | omega | (exfalso; omega) | exact ⟨by omega, by omega⟩ | (omega) | exact absurd trivial ‹¬ True›
          · intro c1 c2 c3; (try simp only [Int.toNat_natCast] at c1 c2 c3); first | omega | (exfalso; omega) | exact ⟨by omega, by omega⟩ | (omega) | exact absurd trivial ‹¬ True›
          · intro c1 c2 c3; (try simp only [Int.toNat_natCast] at c1 c2 c3); first | (exfalso; omega) | exact absurd trivial ‹¬ True› | (skip)
        · have nl := lt cc rr' n2
          have z' : bs (rmC h1 f1) ((9 * b + a : Nat) : Int) s = ((9 * rr' + cc : Nat) : Int) := by rw [e1]; exact n3
          have en : (((9 * rr' + cc : Nat) : Int)).toNat = 9 * rr' + cc := Int.toNat_natCast _
          have cc' := cst cc rr' n2
          have ct : h1 88 (((9 * b + a : Nat) : Int)).toNat + h1 88 (bs (rmC h1 f1) ((9 * b + a : Nat) : Int) s).toNat = h1 88 (9 * b + a) + h1 88 (9 * rr' + cc) := by rw [z', en, en0]
          refine g_Is_narrowest_33 h_f1 ?_ ?_ ?_ ?_ ?_ ?_ ?_ ?_ ?_ ?_ ?_ ?_
          · intro c1; (try simp only [Int.toNat_natCast] at c1); first | omega | (exfalso; omega) | exact ⟨by omega, by omega⟩ | ((rw [ct]; omega)) | exact absurd trivial ‹¬ True›
          · intro c1; (try simp only [Int.toNat_natCast] at c1); first | (exfalso; omega) | exact absurd trivial ‹¬ True› | (skip)
          · intro c1; (try simp only [Int.toNat_natCast] at c1); first | omega | (exfalso; omega) | exact ⟨by omega, by omega⟩ | ((rw [ct]; omega)) | exact absurd trivial ‹¬ True›
          · intro c1; (try simp only [Int.toNat_natCast] at c1); first | omega | (exfalso; omega) | exact ⟨by omega, by omega⟩ | ((rw [ct]; omega)) | exact absurd trivial ‹¬ True›
          · intro c1 c2; (try simp only [Int.toNat_natCast] at c1 c2); first | omega | (exfalso; omega) | exact ⟨by omega, by omega⟩ | ((rw [ct]; omega)) | exact absurd trivial ‹¬ True›
          · intro c1 c2; (try simp only [Int.toNat_natCast] at c1 c2); first | (exfalso; omega) | exact absurd trivial ‹¬ True› | (skip)
          · intro c1 c2; (try simp only [Int.toNat_natCast] at c1 c2); first | omega | (exfalso; omega) | exact ⟨by omega, by omega⟩ | ((rw [ct]; omega)) | exact absurd trivial ‹¬ True›
          · intro c1 c2 c3; (try simp only [Int.toNat_natCast] at c1 c2 c3); first | omega | (exfalso; omega) | exact ⟨by omega, by omega⟩ | ((rw [ct]; omega)) | exact absurd trivial ‹¬ True›
          · intro c1 c2 c3; (try simp only [Int.toNat_natCast] at c1 c2 c3)
            rw [z', en] at c3
            refine next v _ (Int.le_refl _) (Or.inl rfl) (fun c' r' q1 q2 q3 => ?_)
            rw [n3] at q2
            obtain ⟨rfl, rfl⟩ := un c' r' cc rr' q1 n2 (by omega)
            exact absurd c3.symm q3
          · intro c1 c2 c3; (try simp only [Int.toNat_natCast] at c1 c2 c3); first | omega | (exfalso; omega) | exact ⟨by omega, by omega⟩ | ((rw [ct]; omega)) | exact absurd trivial ‹¬ True›
          · intro c1 c2 c3; (try simp only [Int.toNat_natCast] at c1 c2 c3); first | omega | (exfalso; omega) | exact ⟨by omega, by omega⟩ | ((rw [ct]; omega)) | exact absurd trivial ‹¬ True›
          · intro c1 c2 c3; (try simp only [Int.toNat_natCast] at c1 c2 c3)
            rw [z', en] at c3
            rw [ct]
            refine next _ _ (by omega) ?_ (fun c' r' q1 q2 q3 => ?_)
            · rcases Int.le_total v (h1 88 (9 * b + a) + h1 88 (9 * rr' + cc)) with u | u
              · left; exact Int.min_eq_left u
              · right
                exact ⟨cc, rr', n2, n1, fun y => c3 y.symm, Int.min_eq_right u⟩
            · rw [n3] at q2
              obtain ⟨rfl, rfl⟩ := un c' r' cc rr' q1 n2 (by omega)
              omega
    have all : ∀ (d m : Nat) (v : Int) (j5 j6 j7 : AV), (m : Int) + d = h1 82 6 → Ok (m : Int) 0 v → Wp true i_Is_narrowest 12 [vr 82, vr f1, vi x2, vi v, vi (m : Int), j5, j6, j7] [] h1 Q := by
      intro d
      induction d with
      | zero =>
        intro m v j5 j6 j7 e I
        refine g_Is_narrowest_12 h_f1 (fun _ => ?_) (fun q => by omega) (fun q => by omega)
        have lo : ∀ c r c' r', isB R c r → isB R c' r' → nb c r c' r' → h1 84 (9 * r + c) ≠ h1 84 (9 * r' + c') → v ≤ h1 88 (9 * r + c) + h1 88 (9 * r' + c') := by
          intro c r c' r' q1 q2 q3 q4
          have dn : ∀ c r, isB R c r → ∀ s', Done (m : Int) 0 c r s' := fun c r q s' => by
            obtain ⟨j, j1, j2⟩ := bq c r q
            exact Or.inl ⟨j, by omega, j2⟩
          have q11 := q1.1
          have q12 := q1.2
          have q21 := q2.1
          have q22 := q2.2
          have sd : ∀ c r c' r', isB R c r → isB R c' r' → ((c' = c + 1 ∧ r' = r) ∨ (c' = c ∧ r' = r + 1)) → h1 84 (9 * r + c) ≠ h1 84 (9 * r' + c') → v ≤ h1 88 (9 * r + c) + h1 88 (9 * r' + c') := by
            intro c r c' r' p1 p2 p3 p4
            have a1 := p1.1
            have a2 := p2.1
            have a3 := p2.2
            have f1' : ((9 * r + c : Nat) : Int) % 9 = c := by omega
            have f2' : ((9 * r + c : Nat) : Int) / 9 = r := by omega
            rcases p3 with p3 | p3
            · refine I.2.1 c r 0 c' r' p1 p2 (Or.inl rfl) (dn c r p1 0) ?_ p4
              unfold bs
              rw [if_pos rfl, f1', if_neg (by omega)]
              omega
            · refine I.2.1 c r 1 c' r' p1 p2 (Or.inr rfl) (dn c r p1 1) ?_ p4
              unfold bs
              rw [if_neg (by decide), if_pos rfl, f2', if_neg (by omega)]
              omega
          rcases q3 with y | y | y | y
          · exact sd c r c' r' q1 q2 (Or.inl y) q4
          · have := sd c' r' c r q2 q1 (Or.inl ⟨y.1, y.2.symm⟩) (fun z => q4 z.symm)
            omega
          · exact sd c r c' r' q1 q2 (Or.inr y) q4
          · have := sd c' r' c r q2 q1 (Or.inr ⟨y.1.symm, y.2⟩) (fun z => q4 z.symm)
            omega
        have st := Vor_str W Vo hLb lo I.2.2 two
        exact k h1 v f st.1 ⟨st.2, I.1⟩
      | succ d ih =>
        intro m v j5 j6 j7 e I
        obtain ⟨a, b, g1, g2⟩ := qb m (by omega)
        have em : ((m : Int)).toNat = m := Int.toNat_natCast m
        refine g_Is_narrowest_12 h_f1 (fun q => by omega) (fun _ => by omega) (fun _ => ?_)
        rw [em, g2]
        refine two' 2 0 m v j7 a b (by omega) (by omega) (by omega) g1 g2 I (fun v2 j5 j6 j7 I2 => ?_)
        have := ih (m + 1) v2 j5 j6 j7 (by omega) (by rw [show ((m + 1 : Nat) : Int) = (m : Int) + 1 by omega]; exact I2)
        rw [show ((m + 1 : Nat) : Int) = (m : Int) + 1 by omega] at this
        exact this
    refine g_Is_narrowest_6 h_f1 (all (h1 82 6).toNat 0 63 _ _ _ (by omega) ⟨Int.le_refl _, fun c r s' c' r' q1 q2 q3 q4 => ?_, Or.inl rfl⟩)
    rcases q4 with ⟨j, j1, j2⟩ | ⟨j, j1, j2, j3⟩ <;> omega
  -- the boards of the LAND first
  have row : ∀ (d c r : Nat) (h1 : HP) (j5 : AV), (c : Int) + d = R 0 0 → (r : Int) < R 0 1 → Ph1 R x2 h h1 c r →
      (∀ (h2 : HP) (j4 j5 : AV), Ph1 R x2 h h2 0 (r + 1) → Wp true i_Is_spreadIsles 7 [vr 82, vr f1, vi x2, vi ((r : Int) + 1), j4, j5] [] h2 (fun r h' => Wp true i_Is_narrowest 6 [vr 82, vr f1, vi x2, vr 9999, vr 9999, vr 9999, vr 9999, vr 9999] (r.toList ++ []) h' Q)) → Wp true i_Is_spreadIsles 18 [vr 82, vr f1, vi x2, vi (r : Int), vi (c : Int), j5] [] h1 (fun r h' => Wp true i_Is_narrowest 6 [vr 82, vr f1, vi x2, vr 9999, vr 9999, vr 9999, vr 9999, vr 9999] (r.toList ++ []) h' Q) := by
    intro d
    induction d with
    | zero =>
      intro c r h1 j5 e hr I kk
      have dd := cdim (frr h1 I.1)
      have pe : ∀ c' r', isB R c' r' → ((r' < r ∨ (r' = r ∧ c' < c)) ↔ (r' < r + 1 ∨ (r' = r + 1 ∧ c' < 0))) := fun c' r' q => by
        have := q.1
        constructor <;> intro z <;> omega
      have I' : Ph1 R x2 h h1 0 (r + 1) := by
        obtain ⟨I1, I2, I3, I4, I5, I6⟩ := I
        refine ⟨I1, fun c' r' q z => I2 c' r' q ((pe c' r' q).mpr z), fun c' r' q z => I3 c' r' q (fun y => z ((pe c' r' q).mp y)), fun j hj => ?_, fun c' r' q z => I5 c' r' q ((pe c' r' q.1).mpr z), ?_⟩
        · obtain ⟨c', r', a1, a2, a3⟩ := I4 j hj
          exact ⟨c', r', a1, (pe c' r' a1.1).mp a2, a3⟩
        · rw [I6]
          apply cntC_congr
          intro c' r' q
          rw [pe c' r' q]
      refine g_Is_spreadIsles_18 h_f1 ?_ ?_ ?_ ?_ ?_ ?_ ?_ ?_ ?_ ?_ ?_
      · intro c1; (try simp only [Int.toNat_natCast] at c1); first | omega | (exfalso; omega) | exact ⟨by omega, by omega⟩ | (omega) | exact absurd trivial ‹¬ True›
      · intro c1; (try simp only [Int.toNat_natCast] at c1); first | (exfalso; omega) | exact absurd trivial ‹¬ True› | (exact kk h1 _ _ I')
      · intro c1; (try simp only [Int.toNat_natCast] at c1); first | omega | (exfalso; omega) | exact ⟨by omega, by omega⟩ | (omega) | exact absurd trivial ‹¬ True›
      · intro c1; (try simp only [Int.toNat_natCast] at c1); first | omega | (exfalso; omega) | exact ⟨by omega, by omega⟩ | (omega) | exact absurd trivial ‹¬ True›
      · intro c1; (try simp only [Int.toNat_natCast] at c1); first | omega | (exfalso; omega) | exact ⟨by omega, by omega⟩ | (omega) | exact absurd trivial ‹¬ True›
      · intro c1 c2; (try simp only [Int.toNat_natCast] at c1 c2); first | omega | (exfalso; omega) | exact ⟨by omega, by omega⟩ | (omega) | exact absurd trivial ‹¬ True›
      · intro c1 c2; (try simp only [Int.toNat_natCast] at c1 c2); first | (exfalso; omega) | exact absurd trivial ‹¬ True› | (skip)
      · intro c1 c2; (try simp only [Int.toNat_natCast] at c1 c2); first | omega | (exfalso; omega) | exact ⟨by omega, by omega⟩ | (omega) | exact absurd trivial ‹¬ True›
      · intro c1 c2; (try simp only [Int.toNat_natCast] at c1 c2); first | omega | (exfalso; omega) | exact ⟨by omega, by omega⟩ | (omega) | exact absurd trivial ‹¬ True›
      · intro c1 c2; (try simp only [Int.toNat_natCast] at c1 c2); first | omega | (exfalso; omega) | exact ⟨by omega, by omega⟩ | (omega) | exact absurd trivial ‹¬ True›
      · intro c1 c2; (try simp only [Int.toNat_natCast] at c1 c2); first | (exfalso; omega) | exact absurd trivial ‹¬ True› | (skip)
    | succ d ih =>
      intro c r h1 j5 e hr I kk
      have dd := cdim (frr h1 I.1)
      have hb : isB R c r := ⟨by omega, hr⟩
      have e9 : ((r : Int) * 9 + (c : Int)).toNat = 9 * r + c := by omega
      have e9' : ((r : Int) * 9 + (c : Int)) = ((9 * r + c : Nat) : Int) := by omega
      have kp : h1 83 (9 * r + c) = rLand R c r := by rw [I.1 83 (by decide) (by decide) (by decide) (by decide)]; exact V.1 c r hb
      have np : ¬ (r < r ∨ (r = r ∧ c < c)) := by omega
      have pe : ∀ c' r', ((r' < r ∨ (r' = r ∧ c' < c + 1)) ↔ ((r' < r ∨ (r' = r ∧ c' < c)) ∨ (c' = c ∧ r' = r))) := fun c' r' => by
        constructor <;> intro z <;> omega
      have cg := cntC_rg W (fun c' r' => SL R x2 c' r' ∧ (r' < r ∨ (r' = r ∧ c' < c)))
      have q6 := I.2.2.2.2.2
      have lt63 : h1 82 6 < 63 := by
        have up := cntC_upd (R := R) (p := fun c' r' => SL R x2 c' r' ∧ (r' < r ∨ (r' = r ∧ c' < c))) (q := fun c' r' => (SL R x2 c' r' ∧ (r' < r ∨ (r' = r ∧ c' < c))) ∨ (c' = c ∧ r' = r)) hb (fun q => np q.2) (fun _ _ _ => Iff.rfl)
        have cg2 := cntC_rg W (fun c' r' => (SL R x2 c' r' ∧ (r' < r ∨ (r' = r ∧ c' < c))) ∨ (c' = c ∧ r' = r))
        omega
      refine g_Is_spreadIsles_18 h_f1 ?_ ?_ ?_ ?_ ?_ ?_ ?_ ?_ ?_ ?_ ?_
      · intro c1; (try simp only [Int.toNat_natCast] at c1); first | omega | (exfalso; omega) | exact ⟨by omega, by omega⟩ | (exact ⟨by omega, lt63⟩) | exact absurd trivial ‹¬ True›
      · intro c1; (try simp only [Int.toNat_natCast] at c1); first | (exfalso; omega) | exact absurd trivial ‹¬ True› | (skip)
      · intro c1; (try simp only [Int.toNat_natCast] at c1); first | omega | (exfalso; omega) | exact ⟨by omega, by omega⟩ | (exact ⟨by omega, lt63⟩) | exact absurd trivial ‹¬ True›
      · intro c1; (try simp only [Int.toNat_natCast] at c1); first | omega | (exfalso; omega) | exact ⟨by omega, by omega⟩ | (exact ⟨by omega, lt63⟩) | exact absurd trivial ‹¬ True›
      · intro c1; (try simp only [Int.toNat_natCast] at c1); first | omega | (exfalso; omega) | exact ⟨by omega, by omega⟩ | (exact ⟨by omega, lt63⟩) | exact absurd trivial ‹¬ True›
      · intro c1 c2; (try simp only [Int.toNat_natCast] at c1 c2); first | omega | (exfalso; omega) | exact ⟨by omega, by omega⟩ | (exact ⟨by omega, lt63⟩) | exact absurd trivial ‹¬ True›
      · intro c1 c2; (try simp only [Int.toNat_natCast] at c1 c2)
        rw [e9, kp] at c2
        rw [e9]
        refine ih (c + 1) r _ _ (by omega) hr ?_ kk
        obtain ⟨I1, I2, I3, I4, I5, I6⟩ := I
        refine ⟨fun k k1 k2 k3 k4 => (hs_ne k2).trans (I1 k k1 k2 k3 k4), fun c' r' q z => ?_, fun c' r' q z => ?_, fun j hj => ?_, fun c' r' q z => ?_, ?_⟩
        · rw [hs_ne (k := 84) (show (88 : Nat) ≠ 84 by decide)]
          by_cases y : c' = c ∧ r' = r
          · rw [y.1, y.2, hs_s]
            exact ⟨fun u => absurd u c2, fun _ => rfl⟩
          · rw [hs_o (Or.inr (fun u => y (un c' r' c r q hb u)))]
            exact I2 c' r' q (((pe c' r').mp z).resolve_right y)
        · rw [hs_o (Or.inr (fun u => z ((pe c' r').mpr (Or.inr (un c' r' c r q hb u)))))]
          exact I3 c' r' q (fun u => z ((pe c' r').mpr (Or.inl u)))
        · rw [hs_ne (by decide)] at hj ⊢
          obtain ⟨c', r', a1, a2, a3⟩ := I4 j hj
          exact ⟨c', r', a1, (pe c' r').mpr (Or.inl a2), a3⟩
        · rw [hs_ne (by decide), hs_ne (by decide)]
          refine I5 c' r' q (((pe c' r').mp z).resolve_right (fun u => ?_))
          rw [u.1, u.2] at q
          exact c2 q.2
        · rw [hs_ne (by decide), I6]
          apply cntC_congr
          intro c' r' q
          rw [pe]
          constructor
          · intro u; exact ⟨u.1, Or.inl u.2⟩
          · intro u
            refine ⟨u.1, u.2.resolve_right (fun y => ?_)⟩
            rw [y.1, y.2] at u
            exact c2 u.1.2
      · intro c1 c2; (try simp only [Int.toNat_natCast] at c1 c2); first | omega | (exfalso; omega) | exact ⟨by omega, by omega⟩ | (exact ⟨by omega, lt63⟩) | exact absurd trivial ‹¬ True›
      · intro c1 c2; (try simp only [Int.toNat_natCast] at c1 c2); first | omega | (exfalso; omega) | exact ⟨by omega, by omega⟩ | (exact ⟨by omega, lt63⟩) | exact absurd trivial ‹¬ True›
      · intro c1 c2; (try simp only [Int.toNat_natCast] at c1 c2); first | omega | (exfalso; omega) | exact ⟨by omega, by omega⟩ | (exact ⟨by omega, lt63⟩) | exact absurd trivial ‹¬ True›
      · intro c1 c2; (try simp only [Int.toNat_natCast] at c1 c2)
        rw [e9, kp] at c2
        rw [e9, e9']
        obtain ⟨h2, eh2⟩ : ∃ h2, h2 = hs (hs (hs (hs h1 84 (9 * r + c) (h1 84 (9 * r + c))) 88 (9 * r + c) 0) 87 (h1 82 6).toNat ((9 * r + c : Nat) : Int)) 82 6 (h1 82 6 + 1) := ⟨_, rfl⟩
        obtain ⟨f0, A84, A88, A87, A6⟩ := jn eh2
        rw [← eh2]
        have sc : SL R x2 c r := ⟨hb, c2⟩
        refine ih (c + 1) r h2 _ (by omega) hr ?_ kk
        obtain ⟨I1, I2, I3, I4, I5, I6⟩ := I
        have A84' : ∀ j, h2 84 j = h1 84 j := fun j => by
          rw [A84]
          by_cases y : j = 9 * r + c
          · rw [if_pos y, y]
          · rw [if_neg y]
        refine ⟨fun k k1 k2 k3 k4 => (f0 k k1 k2 k3 k4).trans (I1 k k1 k2 k3 k4), fun c' r' q z => ?_, fun c' r' q z => ?_, fun j hj => ?_, fun c' r' q z => ?_, ?_⟩
        · rw [A84', A88]
          by_cases y : c' = c ∧ r' = r
          · rw [y.1, y.2, if_pos rfl]
            exact ⟨fun _ => ⟨I3 c r hb np, rfl⟩, fun u => absurd c2 u⟩
          · rw [if_neg (fun u => y (un c' r' c r q hb u))]
            exact I2 c' r' q (((pe c' r').mp z).resolve_right y)
        · rw [A84']
          exact I3 c' r' q (fun u => z ((pe c' r').mpr (Or.inl u)))
        · rw [A6] at hj
          by_cases y : j = (h1 82 6).toNat
          · exact ⟨c, r, sc, (pe c r).mpr (Or.inr ⟨rfl, rfl⟩), by rw [A87, if_pos y]⟩
          · obtain ⟨c', r', a1, a2, a3⟩ := I4 j (by omega)
            exact ⟨c', r', a1, (pe c' r').mpr (Or.inl a2), by rw [A87, if_neg y]; exact a3⟩
        · rw [A6]
          by_cases y : c' = c ∧ r' = r
          · exact ⟨(h1 82 6).toNat, by omega, by rw [A87, if_pos rfl, y.1, y.2]⟩
          · obtain ⟨j, j1, j2⟩ := I5 c' r' q (((pe c' r').mp z).resolve_right y)
            exact ⟨j, by omega, by rw [A87, if_neg (by omega)]; exact j2⟩
        · rw [A6, I6]
          symm
          apply cntC_upd hb (fun q => np q.2)
          intro c' r' q
          rw [pe]
          constructor
          · intro u; exact u.2.elim (fun y => Or.inl ⟨u.1, y⟩) Or.inr
          · intro u
            rcases u with u | u
            · exact ⟨u.1, Or.inl u.2⟩
            · rw [u.1, u.2]; exact ⟨sc, Or.inr ⟨rfl, rfl⟩⟩
  have rows : ∀ (d r : Nat) (h1 : HP) (j4 j5 : AV), (r : Int) + d = R 0 1 → Ph1 R x2 h h1 0 r → Wp true i_Is_spreadIsles 7 [vr 82, vr f1, vi x2, vi (r : Int), j4, j5] [] h1 (fun r h' => Wp true i_Is_narrowest 6 [vr 82, vr f1, vi x2, vr 9999, vr 9999, vr 9999, vr 9999, vr 9999] (r.toList ++ []) h' Q) := by
    intro d
    induction d with
    | zero =>
      intro r h1 j4 j5 e I
      have dd := cdim (frr h1 I.1)
      refine g_Is_spreadIsles_7 h_f1 (fun _ => ?_) (fun q => by omega)
      obtain ⟨I1, I2, I3, I4, I5, I6⟩ := I
      have pa : ∀ c' r', isB R c' r' → (r' < r ∨ (r' = r ∧ c' < 0)) := fun c' r' q => by have := q.2; omega
      have lb : ∀ c' r', isB R c' r' → 0 ≤ h1 84 (9 * r' + c') → SL R x2 c' r' := by
        intro c' r' q z
        by_cases y : rLand R c' r' = x2
        · exact ⟨q, y⟩
        · rw [(I2 c' r' q (pa c' r' q)).2 y] at z; omega
      have zc : ∀ j : Nat, (j : Int) < h1 82 6 → h1 88 (h1 87 j).toNat = 0 := by
        intro j hj
        obtain ⟨c', r', a1, a2, a3⟩ := I4 j hj
        rw [a3, Int.toNat_natCast]
        exact ((I2 c' r' a1.1 a2).1 a1.2).2
      have q0 : 0 ≤ h1 82 6 := by rw [I6]; exact (cntC_rg W _).1
      have sl0 : ∀ c' r', SL R x2 c' r' → h1 84 (9 * r' + c') = h 84 (9 * r' + c') ∧ h1 88 (9 * r' + c') = 0 := fun c' r' q => (I2 c' r' q.1 (pa c' r' q.1)).1 q.2
      have I0 : Bfs R x2 h h1 0 := by
        refine ⟨I1, sl0, fun c' r' q z => ?_, fun j hj => ?_, fun c' r' q z => I5 c' r' (lb c' r' q z) (pa c' r' q), ?_, fun i j hij hj => ?_, fun i j ei hi hj => ?_, fun i hi => by omega⟩
        · have s := lb c' r' q z
          have v := sl0 c' r' s
          rw [v.2]
          refine ⟨by omega, q0, c', r', s, v.1.symm, ?_⟩
          have := Pth_0 (R := R) (l := x2) (st := 0) (F0 := src c' r') (Lv := Any) q (by rw [src_s]; decide)
          rw [src_s] at this
          exact this
        · obtain ⟨c', r', a1, a2, a3⟩ := I4 j hj
          exact ⟨c', r', a1.1, a3, by rw [(sl0 c' r' a1).1]; exact hpos c' r' a1⟩
        · rw [I6]
          symm
          apply cntC_eq
          intro c' r' q
          exact ⟨fun u => by rw [(sl0 c' r' u.1).1]; exact hpos c' r' u.1, fun u => ⟨lb c' r' q u, pa c' r' q⟩⟩
        · rw [zc i (by omega), zc j hj]; exact Int.le_refl _
        · rw [zc i (by omega), zc j hj]; omega
      obtain ⟨c, r, c', r', t1, t2, t3⟩ := two
      exact c_Is_spread85 h_f1 eR W hpos I0 ⟨c, r, t1⟩ _ _ rest
    | succ d ih =>
      intro r h1 j4 j5 e I
      have dd := cdim (frr h1 I.1)
      refine g_Is_spreadIsles_7 h_f1 (fun q => by omega) (fun _ => ?_)
      refine row (R 0 0).toNat 0 r h1 j5 (by omega) (by omega) I (fun h2 j4 j5 I2 => ?_)
      have := ih (r + 1) h2 j4 j5 (by omega) I2
      rw [show ((r + 1 : Nat) : Int) = (r : Int) + 1 by omega] at this
      exact this
  refine g_Is_spreadIsles_0 h_f1 (rows (R 0 1).toNat 0 _ _ _ (by omega) ⟨fun k k1 _ _ _ => hs_ne k1, fun c' r' q z => by omega, fun c' r' q z => by rw [hs_ne (by decide)], fun j hj => ?_, fun c' r' q z => by omega, ?_⟩)
  · rw [hs_s] at hj; omega
  · rw [hs_s]
    symm
    exact @cnt_none R _ (fun _ _ => Classical.propDecidable _) (fun c r _ q => by omega)
theorem two_iff {X : Nat → Prop} [DecidablePred X] {n : Nat} : 2 ≤ sumF (fun k => if X k then (1 : Int) else 0) n 0 ↔ ∃ i j, i < n ∧ j < n ∧ i ≠ j ∧ X i ∧ X j := by
  constructor
  · intro h
    by_cases e : ∃ i, i < n ∧ X i
    · obtain ⟨i, i1, i2⟩ := e
      by_cases e2 : ∃ j, j < n ∧ j ≠ i ∧ X j
      · obtain ⟨j, j1, j2, j3⟩ := e2
        exact ⟨i, j, i1, j1, fun z => j2 z.symm, i2, j3⟩
      · exfalso
        rw [sumF_one (f := fun k => if X k then (1 : Int) else 0) (t := i) n 0 (by omega) (by omega) (fun j _ hj hne => if_neg (fun q => e2 ⟨j, by omega, hne, q⟩)), if_pos i2] at h
        omega
    · exfalso
      rw [sumF_zero (f := fun k => if X k then (1 : Int) else 0) n 0 (fun j _ hj => if_neg (fun q => e ⟨j, by omega, q⟩))] at h
      omega
  · intro h
    obtain ⟨i, j, i1, j1, ne, xi, xj⟩ := h
    have e : sumF (fun k => if X k then (1 : Int) else 0) n 0 = sumF (fun k => (if k = i then 1 else 0) + ((if k = j then 1 else 0) + (if X k ∧ k ≠ i ∧ k ≠ j then 1 else 0))) n 0 := by
      apply sumF_congr
      intro k _ _
      by_cases a : k = i
      · subst a; simp [xi, ne]
      · by_cases b : k = j
        · subst b; simp [xj, a]
        · simp [a, b]
    rw [e, sumF_add, sumF_add, sumF_one (f := fun k => if k = i then (1 : Int) else 0) (t := i) n 0 (by omega) (by omega) (fun k _ _ hk => if_neg hk), sumF_one (f := fun k => if k = j then (1 : Int) else 0) (t := j) n 0 (by omega) (by omega) (fun k _ _ hk => if_neg hk), if_pos rfl, if_pos rfl]
    have := sumF_rng (f := fun k => if X k ∧ k ≠ i ∧ k ≠ j then (1 : Int) else 0) (a := 0) (b := 1) n 0 (fun k _ _ => by split <;> omega)
    omega
theorem A_strait {n : Nat} {h : HP} {x1 : Int} (hR : Rel n h) : Agree n h i_C_strait i_M_strait [vr 0, vi x1] [vr 103, vi x1, vr 9999, vr 9999, vr 9999, vr 9999] := by
  have s := hR.2.2.2.2.2.1
  have W := s.2.1
  by_cases c : x1 = 0 ∨ x1 = 1
  · refine ag_scr (v := vi (if strV (rmC h 10) x1 = 1000000 then -1 else strV (rmC h 10) x1 / 100)) (st := if strV (rmC h 10) x1 = 1000000 then 6 else 0) hR (fun Q k => ?_) (fun g Q e gk k => ?_)
    · refine g_C_strait_0 (fun _ => ?_) (fun q => absurd c q)
      refine c_Is_survey isF_10 rfl W (fun h1 f V => ?_)
      have V2 := V.2.1
      have tw := two_iff (X := fun k => h1 85 k = x1) (n := (h1 82 4).toNat)
      refine g_C_strait_24 V2 (fun q => ?_) (fun q => ?_)
      · have two : ∃ c r c' r', SL (rmC h 10) x1 c r ∧ SL (rmC h 10) x1 c' r' ∧ ¬ Cn (SL (rmC h 10) x1) c r c' r' := by
          obtain ⟨i, j, i1, j1, ne, xi, xj⟩ := tw.mp q
          obtain ⟨a, b, a1, a2, a3⟩ := V.2.2.2.2.1 i (by omega)
          obtain ⟨a', b', b1, b2, b3⟩ := V.2.2.2.2.1 j (by omega)
          have s1 : SL (rmC h 10) x1 a b := ⟨a1, by rw [← a3]; exact xi⟩
          have s2 : SL (rmC h 10) x1 a' b' := ⟨b1, by rw [← b3]; exact xj⟩
          refine ⟨a, b, a', b', s1, s2, fun cn => ?_⟩
          have := (V.2.2.2.1 a b a' b' a1 b1).mpr ⟨by rw [s1.2, s2.2], by rw [s1.2]; exact cn⟩
          omega
        refine c_Is_narrowest isF_10 (rC_frame isF_10 (fun k hk => f k (by omega))) W V two (fun h2 v f2 ev v0 => ?_)
        have k := k h2 (fun k hk => (f2 k (by omega) (by omega) (by omega) (by omega)).trans (f k (by omega)))
        refine g_C_strait_56 ?_
        have ne : ¬ strV (rmC h 10) x1 = 1000000 := by rw [ev]; omega
        rw [if_neg ne, if_neg ne, ev, show 100 * v / 100 = v by omega] at k
        exact k
      · have no : strV (rmC h 10) x1 = 1000000 := by
          apply mnV_no
          intro d t
          obtain ⟨a, b, a', b', t1, t2, t3, -⟩ := t
          apply q
          apply tw.mpr
          have l1 := V.2.2.1 a b t1.1
          have l2 := V.2.2.1 a' b' t2.1
          have ow : ∀ a b, SL (rmC h 10) x1 a b → h1 85 (h1 84 (9 * b + a)).toNat = x1 := by
            intro a b t
            have l := V.2.2.1 a b t.1
            obtain ⟨c', r', p1, p2, p3⟩ := V.2.2.2.2.1 (h1 84 (9 * b + a)).toNat (by omega)
            have := (V.2.2.2.1 a b c' r' t.1 p1).mp (by omega)
            rw [p3, this.1]; exact t.2
          refine ⟨(h1 84 (9 * b + a)).toNat, (h1 84 (9 * b' + a')).toNat, by omega, by omega, fun z => t3 ?_, ow a b t1, ow a' b' t2⟩
          have := ((V.2.2.2.1 a b a' b' t1.1 t2.1).mp (by omega)).2
          rw [t1.2] at this
          exact this
        have k := k h1 (fun k hk => f k (by omega))
        rw [if_pos no, if_pos no] at k
        exact k
    · refine g_M_strait_0 (fun _ => ?_) (fun q => absurd c q)
      refine c_M_laysIslands e W (Or.inl rfl) (fun h' m f L => ?_)
      rw [SM_1] at L
      have e1 : rmM h' 0 = rmC h 10 := (rmM_congr (f 104 (by decide))).trans e
      exact c_M_strait19 e1 W L (fun h2 f2 rg => k h2 (ScM_0 (fun k hk => (f2 k (by omega)).trans (f k (by omega)))))
  · refine ag_act0 (v := vi (-1)) (st := 1) hR (fun Q k => ?_) (fun g Q e gk k => ?_)
    · exact g_C_strait_0 (fun q => absurd q c) (fun _ => k)
    · exact g_M_strait_0 (fun q => absurd q c) (fun _ => k)
