/-! ===== GAMES: more rounds end as one does ===== -/
def Am {S : Type} (M0 : S → S → Prop) (P : S → Int → Prop) (z : S) (v : Int) : Prop := (∃ y, M0 z y ∧ P y v) ∧ ∀ y u, M0 z y → P y u → u ≤ v
def Bv {S : Type} (V : S → Int) (M0 M1 : S → S → Prop) : Nat → S → Int → Prop
  | 0 => fun y v => (∃ z, M1 y z ∧ V z = v) ∧ ∀ z, M1 y z → v ≤ V z
  | k + 1 => fun y v => (∃ z, M1 y z ∧ Am M0 (Bv V M0 M1 k) z v) ∧ ∀ z u, M1 y z → Am M0 (Bv V M0 M1 k) z u → v ≤ u
theorem game_flat {S : Type} {V : S → Int} {M0 M1 : S → S → Prop}
    (t1 : ∀ z y, M0 z y → ∃ z', M1 y z' ∧ V z' ≤ V z)
    (t0 : ∀ y z, M1 y z → ∃ y', M0 z y' ∧ ∀ z', M1 y' z' → ∃ z'', M1 y z'' ∧ V z'' ≤ V z')
    (eB : ∀ k y, ∃ v, Bv V M0 M1 k y v) (eA : ∀ k z, ∃ v, Am M0 (Bv V M0 M1 k) z v) : ∀ k y v, Bv V M0 M1 k y v → Bv V M0 M1 0 y v := by
  intro k
  induction k with
  | zero => exact fun y v h => h
  | succ k ih =>
    intro y v h
    obtain ⟨⟨z, mz, az⟩, mn⟩ := h
    have up : ∀ z0, M1 y z0 → v ≤ V z0 := by
      intro z0 m0
      obtain ⟨u, hu⟩ := eA k z0
      have a := mn z0 u m0 hu
      obtain ⟨⟨y1, n1, b1⟩, -⟩ := hu
      have c := ih y1 u b1
      obtain ⟨z', p, q⟩ := t1 z0 y1 n1
      have := c.2 z' p
      omega
    refine ⟨?_, up⟩
    obtain ⟨y2, n2, b2⟩ := t0 y z mz
    obtain ⟨u2, hu2⟩ := eB k y2
    have le := az.2 y2 u2 n2 hu2
    have c := ih y2 u2 hu2
    obtain ⟨⟨z', p, q⟩, -⟩ := c
    obtain ⟨z2, p2, q2⟩ := b2 z' p
    have := up z2 p2
    exact ⟨z2, p2, by omega⟩
