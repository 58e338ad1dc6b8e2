theorem fld_skip {σ : Type} {g : Nat → σ → σ} : ∀ (k d i : Nat) (s : σ), (∀ j s, i ≤ j → j < i + k → g j s = s) → fld g (k + d) i s = fld g d (i + k) s
  | 0, d, i, s, _ => by rw [Nat.zero_add, Nat.add_zero]
  | k + 1, d, i, s, h => by
    rw [show k + 1 + d = (k + d) + 1 by omega]
    show fld g (k + d) (i + 1) (g i s) = _
    rw [h i s (by omega) (by omega), fld_skip k d (i + 1) s (fun j s h1 h2 => h j s (by omega) (by omega)), show i + 1 + k = i + (k + 1) by omega]
noncomputable def nB (R : HP) (l : Int) (m : Nat) : Int := cntC R (fstB (SM R l (m : Int)))
def brP (R : HP) (l : Int) (m : Nat) (s : Int × Int) : Prop := isB R (m % 10) (m / 10) ∧ ¬ rLand R ((m % 10 : Nat) : Int) ((m / 10 : Nat) : Int) = l ∧ nB R l m < s.2
noncomputable def brF (R : HP) (l : Int) (m : Nat) (s : Int × Int) : Int × Int := @ite (Int × Int) (brP R l m s) (Classical.propDecidable _) ((m : Int), nB R l m) s
theorem brF_t {R : HP} {l : Int} {m : Nat} {s : Int × Int} (h : brP R l m s) : brF R l m s = ((m : Int), nB R l m) := if_pos h
theorem brF_f {R : HP} {l : Int} {m : Nat} {s : Int × Int} (h : ¬ brP R l m s) : brF R l m s = s := if_neg h
noncomputable def brS (R : HP) (l : Int) : Int × Int := fld (brF R l) 70 0 (-1, 1000000)
theorem nB_rg {R : HP} (W : WR R) (l : Int) (m : Nat) : 0 ≤ nB R l m ∧ nB R l m ≤ 63 := @cnt_rg R W _ (fun _ _ => Classical.propDecidable _)
/-- what has been found so far -/
def brI (R : HP) (l : Int) (s : Int × Int) : Prop := s = (-1, 1000000) ∨ ∃ c r : Nat, isB R c r ∧ s = (((10 * r + c : Nat) : Int), nB R l (10 * r + c))
theorem brF_I {R : HP} {l : Int} {m : Nat} {s : Int × Int} (h : brI R l s) : brI R l (brF R l m s) := by
  by_cases q : brP R l m s
  · rw [brF_t q]
    right
    refine ⟨m % 10, m / 10, q.1, ?_⟩
    rw [show 10 * (m / 10) + m % 10 = m by omega]
  · rw [brF_f q]; exact h
theorem brS_I (R : HP) (l : Int) : brI R l (brS R l) := by
  have key : ∀ (d i : Nat) (s : Int × Int), brI R l s → brI R l (fld (brF R l) d i s) := by
    intro d
    induction d with
    | zero => intro i s h; exact h
    | succ d ih => intro i s h; exact ih (i + 1) _ (brF_I h)
  exact key 70 0 _ (Or.inl rfl)
/-- the class's two fields -/
def brH (R : HP) (l : Int) (h1 : HP) (s : Int × Int) : Prop := (h1 82 9 = -1 ∧ s = (-1, 1000000)) ∨ ∃ c r : Nat, isB R c r ∧ h1 82 9 = ((9 * r + c : Nat) : Int) ∧ s = (((10 * r + c : Nat) : Int), h1 82 10) ∧ h1 82 10 = nB R l (10 * r + c)
theorem c_Is_findBridge {Q : PQ} {h R : HP} {x2 : Int} {f1 : Nat} (h_f1 : isF f1) (eR : rmC h f1 = R) (W : WR R) (V : Svy R h)
    (k : ∀ h', (∀ k, k ≠ 82 → h' k = h k) → brH R x2 h' (brS R x2) → Q none h') : Wp true i_Is_findBridge 0 [vr 82, vr f1, vi x2, vr 9999, vr 9999, vr 9999, vr 9999, vr 9999] [] h Q := by
  have w := W.1
  have V2 := V.2.1
  have vn := svy_n W V x2
  have cr : 0 ≤ cntC R (fstB (SL R x2)) ∧ cntC R (fstB (SL R x2)) ≤ 63 := @cnt_rg R W _ (fun _ _ => Classical.propDecidable _)
  let J : HP → Prop := fun h1 => (∀ k, k ≠ 82 → h1 k = h k) ∧ (∀ i, i ≠ 9 → i ≠ 10 → h1 82 i = h 82 i)
  have fr : ∀ h1, J h1 → rmC h1 f1 = R := fun h1 j => (rC_frame h_f1 (fun k hk => j.1 k (by omega))).trans eR
  have sv : ∀ h1, J h1 → Svy R h1 := by
    intro h1 j
    have e4 := j.2 4 (by decide) (by decide)
    unfold Svy
    rw [j.1 83 (by decide), j.1 84 (by decide), j.1 85 (by decide), j.1 86 (by decide), e4]
    exact V
  have row : ∀ (d c r : Nat) (h1 : HP) (s : Int × Int) (j6 j7 : AV), (c : Int) + d = R 0 0 → (r : Int) < R 0 1 → J h1 → brH R x2 h1 s →
      (∀ (h2 : HP) (s2 : Int × Int) (j5 j6 j7 : AV), J h2 → brH R x2 h2 s2 → fld (brF R x2) (70 - 10 * r - c) (10 * r + c) s = fld (brF R x2) (70 - 10 * (r + 1)) (10 * (r + 1)) s2 → Wp true i_Is_findBridge 14 [vr 82, vr f1, vi x2, vi (cntC R (fstB (SL R x2))), vi ((r : Int) + 1), j5, j6, j7] [] h2 Q) →
      Wp true i_Is_findBridge 26 [vr 82, vr f1, vi x2, vi (cntC R (fstB (SL R x2))), vi (r : Int), vi (c : Int), j6, j7] [] h1 Q := by
    intro d
    induction d with
    | zero =>
      intro c r h1 s j6 j7 e hr j hh kk
      have dd := cdim (fr h1 j)
      have fin := fun j5 j6 j7 => kk h1 s j5 j6 j7 j hh (by
        have := fld_skip (g := brF R x2) (10 - c) (70 - 10 * (r + 1)) (10 * r + c) s (fun m s h1 h2 => by
          apply brF_f
          intro q
          have := q.1.1
          omega)
        rw [show 10 - c + (70 - 10 * (r + 1)) = 70 - 10 * r - c by omega, show 10 * r + c + (10 - c) = 10 * (r + 1) by omega] at this
        exact this)
      refine g_Is_findBridge_26 h_f1 ?_ ?_ ?_ ?_ ?_ ?_ ?_ ?_ ?_
      · intro c1; (try simp only [Int.toNat_natCast] at c1); first | omega | (exfalso; omega) | exact ⟨by omega, by omega⟩ | (omega) | exact absurd trivial ‹¬ True›
      · intro c1; (try simp only [Int.toNat_natCast] at c1); first | (exfalso; omega) | exact absurd trivial ‹¬ True› | (exact fin _ _ _)
      · intro c1; (try simp only [Int.toNat_natCast] at c1); first | omega | (exfalso; omega) | exact ⟨by omega, by omega⟩ | (omega) | exact absurd trivial ‹¬ True›
      · intro c1; (try simp only [Int.toNat_natCast] at c1); first | omega | (exfalso; omega) | exact ⟨by omega, by omega⟩ | (omega) | exact absurd trivial ‹¬ True›
      · intro c1; (try simp only [Int.toNat_natCast] at c1); first | omega | (exfalso; omega) | exact ⟨by omega, by omega⟩ | (omega) | exact absurd trivial ‹¬ True›
      · intro c1 c2; (try simp only [Int.toNat_natCast] at c1 c2); first | omega | (exfalso; omega) | exact ⟨by omega, by omega⟩ | (omega) | exact absurd trivial ‹¬ True›
      · intro c1 c2; (try simp only [Int.toNat_natCast] at c1 c2); first | (exfalso; omega) | exact absurd trivial ‹¬ True› | (skip)
      · intro c1 c2; (try simp only [Int.toNat_natCast] at c1 c2); first | omega | (exfalso; omega) | exact ⟨by omega, by omega⟩ | (omega) | exact absurd trivial ‹¬ True›
      · intro c1 c2; (try simp only [Int.toNat_natCast] at c1 c2); first | (exfalso; omega) | exact absurd trivial ‹¬ True› | (skip)
    | succ d ih =>
      intro c r h1 s j6 j7 e hr j hh kk
      have dd := cdim (fr h1 j)
      have hb : isB R c r := ⟨by omega, hr⟩
      have e9 : ((r : Int) * 9 + (c : Int)).toNat = 9 * r + c := by omega
      have kp : h1 83 (9 * r + c) = rLand R c r := (sv h1 j).1 c r hb
      have em1 : (10 * r + c) % 10 = c := by omega
      have em2 : (10 * r + c) / 10 = r := by omega
      have stp : fld (brF R x2) (70 - 10 * r - c) (10 * r + c) s = fld (brF R x2) (70 - 10 * r - (c + 1)) (10 * r + (c + 1)) (brF R x2 (10 * r + c) s) := by
        rw [show 70 - 10 * r - c = (70 - 10 * r - (c + 1)) + 1 by omega]
        rfl
      have keep : brF R x2 (10 * r + c) s = s → ∀ j6 j7, Wp true i_Is_findBridge 26 [vr 82, vr f1, vi x2, vi (cntC R (fstB (SL R x2))), vi (r : Int), vi ((c : Int) + 1), j6, j7] [] h1 Q := by
        intro q j6 j7
        refine ih (c + 1) r h1 s j6 j7 (by omega) hr j hh (fun h2 s2 j5 j6 j7 a1 a2 a3 => kk h2 s2 j5 j6 j7 a1 a2 ?_)
        rw [stp, q]; exact a3
      have take : ¬ rLand R c r = x2 → nB R x2 (10 * r + c) < s.2 → ∀ (j6 j7 : AV), Wp true i_Is_findBridge 26 [vr 82, vr f1, vi x2, vi (cntC R (fstB (SL R x2))), vi (r : Int), vi ((c : Int) + 1), j6, j7] [] (hs (hs h1 82 9 ((r : Int) * 9 + (c : Int))) 82 10 (nB R x2 (10 * r + c))) Q := by
        intro q1 q2 j6 j7
        refine ih (c + 1) r _ (((10 * r + c : Nat) : Int), nB R x2 (10 * r + c)) j6 j7 (by omega) hr ⟨fun k hk => ?_, fun i i1 i2 => ?_⟩ (Or.inr ⟨c, r, hb, ?_, ?_, hs_s⟩) (fun h2 s2 j5 j6 j7 a1 a2 a3 => kk h2 s2 j5 j6 j7 a1 a2 ?_)
        · rw [hs_ne hk, hs_ne hk]; exact j.1 k hk
        · rw [hs_o (Or.inr i2), hs_o (Or.inr i1)]; exact j.2 i i1 i2
        · rw [hs_o (by decide), hs_s]; omega
        · rw [hs_s]
        · rw [stp, brF_t]
          · exact a3
          · unfold brP
            rw [em1, em2]
            exact ⟨hb, q1, q2⟩
      have nr := nB_rg W x2 (10 * r + c)
      refine g_Is_findBridge_26 h_f1 ?_ ?_ ?_ ?_ ?_ ?_ ?_ ?_ ?_
      · intro c1; (try simp only [Int.toNat_natCast] at c1); first | omega | (exfalso; omega) | exact ⟨by omega, by omega⟩ | (omega) | exact absurd trivial ‹¬ True›
      · intro c1; (try simp only [Int.toNat_natCast] at c1); first | (exfalso; omega) | exact absurd trivial ‹¬ True› | (skip)
      · intro c1; (try simp only [Int.toNat_natCast] at c1); first | omega | (exfalso; omega) | exact ⟨by omega, by omega⟩ | (omega) | exact absurd trivial ‹¬ True›
      · intro c1; (try simp only [Int.toNat_natCast] at c1); first | omega | (exfalso; omega) | exact ⟨by omega, by omega⟩ | (omega) | exact absurd trivial ‹¬ True›
      · intro c1; (try simp only [Int.toNat_natCast] at c1); first | omega | (exfalso; omega) | exact ⟨by omega, by omega⟩ | (omega) | exact absurd trivial ‹¬ True›
      · intro c1 c2; (try simp only [Int.toNat_natCast] at c1 c2); first | omega | (exfalso; omega) | exact ⟨by omega, by omega⟩ | (omega) | exact absurd trivial ‹¬ True›
      · intro c1 c2; (try simp only [Int.toNat_natCast] at c1 c2)
        rw [e9, kp] at c2
        refine keep (brF_f (fun q => ?_)) _ _
        have := q.2.1
        rw [em1, em2] at this
        exact this c2
      · intro c1 c2; (try simp only [Int.toNat_natCast] at c1 c2); first | omega | (exfalso; omega) | exact ⟨by omega, by omega⟩ | (omega) | exact absurd trivial ‹¬ True›
      · intro c1 c2; (try simp only [Int.toNat_natCast] at c1 c2)
        rw [e9, kp] at c2
        refine c_Is_islesAround h_f1 (fr h1 j) W (sv h1 j) hb (by omega) ?_
        have an := ar_n W (sv h1 j) hb c2
        have av : cntC R (fstB (SL R x2)) + 1 - sumF (fun k => ind (arI R h1 x2 c r k)) (h1 82 4).toNat 0 = nB R x2 (10 * r + c) := by
          unfold nB; omega
        refine g_Is_findBridge_66 h_f1 (by rw [av]; omega) (fun _ => by omega) (fun q => ?_) (fun _ _ => by omega) (fun q1 q2 => ?_) (fun _ _ => by omega) (fun q1 q2 => ?_)
        · rw [av]
          rcases hh with ⟨u1, u2⟩ | ⟨a, b, u1, u2, u3, u4⟩
          · exact take c2 (by rw [u2]; show _ < (1000000 : Int); omega) _ _
          · omega
        · rw [av] at q2 ⊢
          rcases hh with ⟨u1, u2⟩ | ⟨a, b, u1, u2, u3, u4⟩
          · omega
          · refine keep (brF_f (fun q => ?_)) _ _
            have := q.2.2
            rw [u3] at this
            have : nB R x2 (10 * r + c) < h1 82 10 := this
            omega
        · rw [av] at q2 ⊢
          rcases hh with ⟨u1, u2⟩ | ⟨a, b, u1, u2, u3, u4⟩
          · omega
          · exact take c2 (by rw [u3]; show _ < h1 82 10; omega) _ _
  have rows : ∀ (d r : Nat) (h1 : HP) (s : Int × Int) (j5 j6 j7 : AV), (r : Int) + d = R 0 1 → J h1 → brH R x2 h1 s → fld (brF R x2) (70 - 10 * r) (10 * r) s = brS R x2 → Wp true i_Is_findBridge 14 [vr 82, vr f1, vi x2, vi (cntC R (fstB (SL R x2))), vi (r : Int), j5, j6, j7] [] h1 Q := by
    intro d
    induction d with
    | zero =>
      intro r h1 s j5 j6 j7 e j hh hf
      have dd := cdim (fr h1 j)
      refine g_Is_findBridge_14 h_f1 (fun _ => k h1 j.1 ?_) (fun q => by omega)
      have := fld_skip (g := brF R x2) (70 - 10 * r) 0 (10 * r) s (fun m s h1 h2 => by
        apply brF_f
        intro q
        have := q.1.2
        omega)
      rw [Nat.add_zero, hf] at this
      rw [this]
      exact hh
    | succ d ih =>
      intro r h1 s j5 j6 j7 e j hh hf
      have dd := cdim (fr h1 j)
      refine g_Is_findBridge_14 h_f1 (fun q => by omega) (fun _ => ?_)
      refine row (R 0 0).toNat 0 r h1 s j6 j7 (by omega) (by omega) j hh (fun h2 s2 j5 j6 j7 a1 a2 a3 => ?_)
      rw [Nat.add_zero, Nat.sub_zero, hf] at a3
      exact ih (r + 1) h2 s2 j5 j6 j7 (by omega) a1 a2 a3.symm
  refine g_Is_findBridge_0 h_f1 V2 ?_
  rw [vn]
  refine rows (R 0 1).toNat 0 _ (-1, 1000000) _ _ _ (by omega) ⟨fun k hk => hs_ne hk, fun i i1 i2 => hs_o (Or.inr i1)⟩ (Or.inl ⟨hs_s, rfl⟩) rfl
theorem c_M_bridgeOf {Q : PQ} {h R : HP} {x1 : Int} (eM : rmM h 0 = R) (W : WR R) (hl : x1 = 0 ∨ x1 = 1)
    (k : ∀ h', (∀ k, k ≠ 112 → h' k = h k) → Q (some (vi (brS R x1).1)) h') : Wp true i_M_bridgeOf 0 [vr 103, vi x1, vr 9999, vr 9999, vr 9999, vr 9999] [] h Q := by
  have w := W.1
  have key : ∀ (d m : Nat) (h1 : HP) (s : Int × Int) (j5 : AV), m + d = 70 → (∀ k, k ≠ 112 → h1 k = h k) → fld (brF R x1) d m s = brS R x1 → Wp true i_M_bridgeOf 9 [vr 103, vi x1, vi s.1, vi s.2, vi (m : Int), j5] [] h1 Q := by
    intro d
    induction d with
    | zero =>
      intro m h1 s j5 e f hf
      have hf : s = brS R x1 := hf
      have fin : Q (some (vi s.1)) h1 := by rw [hf]; exact k h1 f
      refine g_M_bridgeOf_9 ?_ ?_ ?_ ?_ ?_ ?_ ?_
      · intro c1; (try simp only [Int.toNat_natCast] at c1); first | (exfalso; omega) | exact absurd trivial ‹¬ True› | (exact fin)
      · intro c1; (try simp only [Int.toNat_natCast] at c1); first | omega | (exfalso; omega) | exact ⟨by omega, by omega⟩ | (omega) | exact absurd trivial ‹¬ True›
      · intro c1; (try simp only [Int.toNat_natCast] at c1); first | omega | (exfalso; omega) | exact ⟨by omega, by omega⟩ | (omega) | exact absurd trivial ‹¬ True›
      · intro c1; (try simp only [Int.toNat_natCast] at c1); first | omega | (exfalso; omega) | exact ⟨by omega, by omega⟩ | (omega) | exact absurd trivial ‹¬ True›
      · intro c1 c2; (try simp only [Int.toNat_natCast] at c1 c2); first | (exfalso; omega) | exact absurd trivial ‹¬ True› | (skip)
      · intro c1 c2; (try simp only [Int.toNat_natCast] at c1 c2); first | omega | (exfalso; omega) | exact ⟨by omega, by omega⟩ | (omega) | exact absurd trivial ‹¬ True›
      · intro c1 c2; (try simp only [Int.toNat_natCast] at c1 c2); first | (exfalso; omega) | exact absurd trivial ‹¬ True› | (skip)
    | succ d ih =>
      intro m h1 s j5 e f hf
      have eM1 : rmM h1 0 = R := (rmM_congr (f 104 (by decide))).trans eM
      have bo := bo_iff (m := m) (l := 1 - x1) eM1
      have hf : fld (brF R x1) d (m + 1) (brF R x1 m s) = brS R x1 := hf
      have l01 := ho_01 W (c := ((m % 10 : Nat) : Int)) (r := ((m / 10 : Nat) : Int))
      have nx := fun (h2 : HP) (q : brF R x1 m s = s) (f2 : ∀ k, k ≠ 112 → h2 k = h k) (j5 : AV) => ih (m + 1) h2 s j5 (by omega) f2 (by rw [q] at hf; exact hf)
      refine g_M_bridgeOf_9 ?_ ?_ ?_ ?_ ?_ ?_ ?_
      · intro c1; (try simp only [Int.toNat_natCast] at c1); first | (exfalso; omega) | exact absurd trivial ‹¬ True› | (skip)
      · intro c1; (try simp only [Int.toNat_natCast] at c1); first | omega | (exfalso; omega) | exact ⟨by omega, by omega⟩ | ((rw [eM1]; exact W)) | exact absurd trivial ‹¬ True›
      · intro c1; (try simp only [Int.toNat_natCast] at c1); first | omega | (exfalso; omega) | exact ⟨by omega, by omega⟩ | ((rw [eM1]; exact W)) | exact absurd trivial ‹¬ True›
      · intro c1; (try simp only [Int.toNat_natCast] at c1); first | omega | (exfalso; omega) | exact ⟨by omega, by omega⟩ | ((rw [eM1]; exact W)) | exact absurd trivial ‹¬ True›
      · intro c1 c2; (try simp only [Int.toNat_natCast] at c1 c2)
        have sl := bo.mp c2
        have nl : ¬ rLand R ((m % 10 : Nat) : Int) ((m / 10 : Nat) : Int) = x1 := by rw [sl.2]; omega
        refine c_M_laysIslands eM1 W (Or.inr ⟨m % 10, m / 10, sl.1, by omega⟩) (fun h2 n f2 L => ?_)
        have en : n = nB R x1 m := lay_n W (fun c r q => SM_B q) L
        have f3 : ∀ k, k ≠ 112 → h2 k = h k := fun k hk => (f2 k hk).trans (f k hk)
        refine g_M_bridgeOf_38 (fun _ => by omega) (fun q => ?_) (fun _ => by omega) (fun q => ?_)
        · rw [brF_t (⟨sl.1, nl, by rw [← en]; exact q⟩ : brP R x1 m s)] at hf
          rw [en]
          exact ih (m + 1) h2 (((m : Nat) : Int), nB R x1 m) _ (by omega) f3 hf
        · exact nx h2 (brF_f (fun z => q (by rw [en]; exact z.2.2))) f3 _
      · intro c1 c2; (try simp only [Int.toNat_natCast] at c1 c2); first | omega | (exfalso; omega) | exact ⟨by omega, by omega⟩ | ((rw [eM1]; exact W)) | exact absurd trivial ‹¬ True›
      · intro c1 c2; (try simp only [Int.toNat_natCast] at c1 c2)
        refine nx h1 (brF_f (fun z => c2 (bo.mpr ⟨z.1, ?_⟩))) f _
        have := z.2.1
        omega
  exact g_M_bridgeOf_0 (key 70 0 h (-1, 1000000) _ rfl (fun _ _ => rfl) rfl)
theorem A_bridge {n : Nat} {h : HP} {x1 : Int} (hR : Rel n h) : Agree n h i_C_bridge i_M_bridge [vr 0, vi x1, vr 9999] [vr 103, vi x1] := by
  have s := hR.2.2.2.2.2.1
  have W := s.2.1
  have w := W.1
  by_cases c : x1 = 0 ∨ x1 = 1
  · refine ag_scr (v := vi (brS (rmC h 10) x1).1) (st := if (brS (rmC h 10) x1).1 = -1 then 6 else 0) hR (fun Q k => ?_) (fun g Q e gk k => ?_)
    · refine g_C_bridge_0 (fun _ => ?_) (fun q => absurd c q)
      refine c_Is_survey isF_10 rfl W (fun h1 f V => ?_)
      refine g_C_bridge_24 (c_Is_findBridge isF_10 (rC_frame isF_10 (fun k hk => f k (by omega))) W V (fun h2 f2 hh => ?_))
      have k := k h2 (fun k hk => (f2 k (by omega)).trans (f k (by omega)))
      rcases hh with ⟨u1, u2⟩ | ⟨a, b, u1, u2, u3, u4⟩
      · rw [u2, if_pos rfl] at k
        exact g_C_bridge_36 (fun q => by omega) (fun q => by omega) (fun q => by omega) (fun q => by omega) (fun q => by omega) (fun _ => k)
      · have b1 := u1.1
        have b2 := u1.2
        rw [u3] at k
        have k : Q (some (vi ((10 * b + a : Nat) : Int))) (hs h2 0 0 (if ((10 * b + a : Nat) : Int) = -1 then 6 else 0)) := k
        rw [if_neg (by omega)] at k
        refine g_C_bridge_36 (fun q => by omega) (fun q => by omega) (fun q => by omega) (fun q => by omega) (fun q => ?_) (fun q => by omega)
        rw [u2, show ((9 * b + a : Nat) : Int) / 9 * 10 + ((9 * b + a : Nat) : Int) % 9 = ((10 * b + a : Nat) : Int) by omega]
        exact k
    · refine g_M_bridge_0 (fun q => absurd c q) (fun _ => ?_)
      exact c_M_bridgeOf e W c (fun h' f => g_M_bridge_13 (k h' (ScM_0 (fun k hk => f k (by omega)))))
  · refine ag_act0 (v := vi (-1)) (st := 1) hR (fun Q k => ?_) (fun g Q e gk k => ?_)
    · exact g_C_bridge_0 (fun q => absurd q c) (fun _ => k)
    · exact g_M_bridge_0 (fun _ => k) (fun q => absurd q c)
theorem A_bridged {n : Nat} {h : HP} {x1 : Int} (hR : Rel n h) : Agree n h i_C_bridged i_M_bridged [vr 0, vi x1] [vr 103, vi x1, vr 9999] := by
  have s := hR.2.2.2.2.2.1
  have W := s.2.1
  have w := W.1
  by_cases c : x1 = 0 ∨ x1 = 1
  · refine ag_scr (v := vi (if (brS (rmC h 10) x1).1 = -1 then -1 else (brS (rmC h 10) x1).2)) (st := if (brS (rmC h 10) x1).1 = -1 then 6 else 0) hR (fun Q k => ?_) (fun g Q e gk k => ?_)
    · refine g_C_bridged_0 (fun _ => ?_) (fun q => absurd c q)
      refine c_Is_survey isF_10 rfl W (fun h1 f V => ?_)
      refine g_C_bridged_24 (c_Is_findBridge isF_10 (rC_frame isF_10 (fun k hk => f k (by omega))) W V (fun h2 f2 hh => ?_))
      have k := k h2 (fun k hk => (f2 k (by omega)).trans (f k (by omega)))
      rcases hh with ⟨u1, u2⟩ | ⟨a, b, u1, u2, u3, u4⟩
      · rw [u2, if_pos rfl, if_pos rfl] at k
        exact g_C_bridged_36 (fun q => by omega) (fun _ => k)
      · rw [u3] at k
        have k : Q (some (vi (if ((10 * b + a : Nat) : Int) = -1 then -1 else h2 82 10))) (hs h2 0 0 (if ((10 * b + a : Nat) : Int) = -1 then 6 else 0)) := k
        rw [if_neg (by omega), if_neg (by omega)] at k
        exact g_C_bridged_36 (fun _ => k) (fun q => by omega)
    · refine g_M_bridged_0 (fun _ => ?_) (fun q => absurd c q)
      refine c_M_bridgeOf e W c (fun h' f => ?_)
      have e1 : rmM h' 0 = rmC h 10 := (rmM_congr (f 104 (by decide))).trans e
      refine g_M_bridged_18 (fun q => ?_) (fun q => ?_)
      · rw [if_neg q, if_neg q] at k
        rcases brS_I (rmC h 10) x1 with u | ⟨a, b, u1, u2⟩
        · rw [u] at q; exact absurd rfl q
        · refine c_M_laysIslands e1 W (Or.inr ⟨a, b, u1, by rw [u2]⟩) (fun h2 m f2 L => ?_)
          refine g_M_bridged_40 ?_
          have em : m = (brS (rmC h 10) x1).2 := by
            rw [u2] at L ⊢
            exact lay_n W (fun c r q => SM_B q) L
          rw [em]
          exact k h2 (ScM_0 (fun k hk => (f2 k (by omega)).trans (f k (by omega))))
      · rw [if_pos q, if_pos q] at k
        exact k h' (ScM_0 (fun k hk => f k (by omega)))
  · refine ag_act0 (v := vi (-1)) (st := 1) hR (fun Q k => ?_) (fun g Q e gk k => ?_)
    · exact g_C_bridged_0 (fun q => absurd q c) (fun _ => k)
    · exact g_M_bridged_0 (fun q => absurd q c) (fun _ => k)
