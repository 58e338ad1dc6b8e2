/-! ===== boards that hang together ===== -/
def nb (c r c' r' : Nat) : Prop := (c' = c + 1 ∧ r' = r) ∨ (c = c' + 1 ∧ r' = r) ∨ (c' = c ∧ r' = r + 1) ∨ (c' = c ∧ r = r' + 1)
def Cn (S : Nat → Nat → Prop) (c r c' r' : Nat) : Prop := ∀ P : Nat → Nat → Prop, P c r → (∀ x y x' y', P x y → nb x y x' y' → S x' y' → P x' y') → P c' r'
def isB (R : HP) (c r : Nat) : Prop := (c : Int) < R 0 0 ∧ (r : Int) < R 0 1
def SL (R : HP) (l : Int) (c r : Nat) : Prop := isB R c r ∧ rLand R c r = l
theorem nb_sym {c r c' r' : Nat} (h : nb c r c' r') : nb c' r' c r := by
  unfold nb at h ⊢
  omega
theorem Cn_refl {S : Nat → Nat → Prop} {c r : Nat} : Cn S c r c r := fun _ h _ => h
theorem Cn_step {S : Nat → Nat → Prop} {c r x y x' y' : Nat} (h : Cn S c r x y) (hn : nb x y x' y') (hS : S x' y') : Cn S c r x' y' := fun P h0 h1 => h1 x y x' y' (h P h0 h1) hn hS
theorem Cn_tr {S : Nat → Nat → Prop} {c r x y x' y' : Nat} (h : Cn S c r x y) (h2 : Cn S x y x' y') : Cn S c r x' y' := h2 (fun a b => Cn S c r a b) h (fun _ _ _ _ p q s => Cn_step p q s)
theorem Cn_S {S : Nat → Nat → Prop} {c r x y : Nat} (h : Cn S c r x y) (hS : S c r) : S x y := h S hS (fun _ _ _ _ _ _ s => s)
theorem Cn_sym {S : Nat → Nat → Prop} {c r x y : Nat} (h : Cn S c r x y) (hS : S c r) : Cn S x y c r := by
  have := h (fun a b => S a b ∧ Cn S a b c r) ⟨hS, Cn_refl⟩ (fun a b a' b' p q s => ⟨s, Cn_tr (Cn_step Cn_refl (nb_sym q) p.1) p.2⟩)
  exact this.2
theorem Cn_mono {S S' : Nat → Nat → Prop} {c r x y : Nat} (h : Cn S c r x y) (hS : ∀ a b, S a b → S' a b) : Cn S' c r x y := fun P h0 h1 => h P h0 (fun a b a' b' p q s => h1 a b a' b' p q (hS _ _ s))
/-- how many boards have a property -/
def cnt (R : HP) (p : Nat → Nat → Prop) [∀ c r, Decidable (p c r)] : Int := sumF (fun r => sumF (fun c => if p c r then 1 else 0) (R 0 0).toNat 0) (R 0 1).toNat 0
theorem cnt_congr {R : HP} {p q : Nat → Nat → Prop} [∀ c r, Decidable (p c r)] [∀ c r, Decidable (q c r)] (h : ∀ c r, isB R c r → (p c r ↔ q c r)) : cnt R p = cnt R q := by
  unfold cnt
  apply sumF_congr
  intro r _ hr
  apply sumF_congr
  intro c _ hc
  have := h c r ⟨by omega, by omega⟩
  by_cases a : p c r
  · rw [if_pos a, if_pos (this.mp a)]
  · rw [if_neg a, if_neg (fun z => a (this.mpr z))]
theorem cnt_rg {R : HP} (W : WR R) (p : Nat → Nat → Prop) [∀ c r, Decidable (p c r)] : 0 ≤ cnt R p ∧ cnt R p ≤ 63 := by
  have w := W.1
  have a : ∀ r : Nat, 0 ≤ sumF (fun c => if p c r then (1 : Int) else 0) (R 0 0).toNat 0 ∧ sumF (fun c => if p c r then (1 : Int) else 0) (R 0 0).toNat 0 ≤ 9 := by
    intro r
    have := sumF_rng (f := fun c => if p c r then (1 : Int) else 0) (a := 0) (b := 1) (R 0 0).toNat 0 (fun j _ _ => by split <;> omega)
    omega
  have := sumF_rng (f := fun r => sumF (fun c => if p c r then (1 : Int) else 0) (R 0 0).toNat 0) (a := 0) (b := 9) (R 0 1).toNat 0 (fun j _ _ => a j)
  unfold cnt
  omega
theorem cnt_upd {R : HP} {p q : Nat → Nat → Prop} [∀ c r, Decidable (p c r)] [∀ c r, Decidable (q c r)] {c0 r0 : Nat} (hb : isB R c0 r0) (hp : ¬ p c0 r0) (h : ∀ c r, isB R c r → (q c r ↔ p c r ∨ (c = c0 ∧ r = r0))) : cnt R q = cnt R p + 1 := by
  have hb1 := hb.1
  have hb2 := hb.2
  have e : cnt R q = sumF (fun r => sumF (fun c => if p c r then (1 : Int) else 0) (R 0 0).toNat 0 + (if r = r0 then 1 else 0)) (R 0 1).toNat 0 := by
    unfold cnt
    apply sumF_congr
    intro r _ hr
    have e2 : sumF (fun c => if q c r then (1 : Int) else 0) (R 0 0).toNat 0 = sumF (fun c => (if p c r then (1 : Int) else 0) + (if c = c0 ∧ r = r0 then 1 else 0)) (R 0 0).toNat 0 := by
      apply sumF_congr
      intro c _ hc
      have := h c r ⟨by omega, by omega⟩
      by_cases a : c = c0 ∧ r = r0
      · rw [if_pos (this.mpr (Or.inr a)), if_pos a, if_neg (by rw [a.1, a.2]; exact hp)]; rfl
      · rw [if_neg a]
        by_cases b : p c r
        · rw [if_pos (this.mpr (Or.inl b)), if_pos b]; rfl
        · rw [if_neg (fun z => (this.mp z).elim b a), if_neg b]; rfl
    rw [e2, sumF_add]
    congr 1
    by_cases a : r = r0
    · rw [if_pos a, sumF_one (t := c0) _ _ (by omega) (by omega), if_pos ⟨rfl, a⟩]
      intro j _ _ hj
      rw [if_neg (fun z => hj z.1)]
    · rw [if_neg a]
      apply sumF_zero
      intro j _ _
      rw [if_neg (fun z => a z.2)]
  rw [e, sumF_add]
  show _ = cnt R p + 1
  unfold cnt
  congr 1
  rw [sumF_one (t := r0) _ _ (by omega) (by omega), if_pos rfl]
  intro j _ _ hj
  rw [if_neg hj]
theorem cnt_lt {R : HP} (W : WR R) {p : Nat → Nat → Prop} [∀ c r, Decidable (p c r)] {c0 r0 : Nat} (hb : isB R c0 r0) (hp : ¬ p c0 r0) : cnt R p < 63 := by
  have e := cnt_upd (q := fun c r => p c r ∨ (c = c0 ∧ r = r0)) hb hp (fun c r _ => Iff.rfl)
  have := cnt_rg W (fun c r => p c r ∨ (c = c0 ∧ r = r0))
  omega
/-- the board on a side of another one, as the class tells it: -1 or 9 r + c -/
def bs (R : HP) (b s : Int) : Int := if s = 0 then (if R 0 0 ≤ b % 9 + 1 then -1 else b + 1) else if s = 1 then (if R 0 1 ≤ b / 9 + 1 then -1 else b + 9) else if s = 2 then (if b % 9 ≤ 0 then -1 else b - 1) else (if b / 9 ≤ 0 then -1 else b - 9)
theorem bs_nb {R : HP} (W : WR R) {c r : Nat} (hb : isB R c r) {s : Int} (hs : 0 ≤ s ∧ s < 4) : bs R (9 * r + c : Nat) s = -1 ∨ ∃ c' r', nb c r c' r' ∧ isB R c' r' ∧ bs R (9 * r + c : Nat) s = ((9 * r' + c' : Nat) : Int) := by
  have w := W.1
  unfold isB at hb
  have e1 : ((9 * r + c : Nat) : Int) % 9 = c := by omega
  have e2 : ((9 * r + c : Nat) : Int) / 9 = r := by omega
  unfold bs
  rw [e1, e2]
  rcases (show s = 0 ∨ s = 1 ∨ s = 2 ∨ s = 3 by omega) with rfl | rfl | rfl | rfl
  · rw [if_pos rfl]
    by_cases z : R 0 0 ≤ (c : Int) + 1
    · rw [if_pos z]; exact Or.inl rfl
    · rw [if_neg z]; right
      exact ⟨c + 1, r, Or.inl ⟨rfl, rfl⟩, ⟨by omega, by omega⟩, by omega⟩
  · rw [if_neg (by decide), if_pos rfl]
    by_cases z : R 0 1 ≤ (r : Int) + 1
    · rw [if_pos z]; exact Or.inl rfl
    · rw [if_neg z]; right
      exact ⟨c, r + 1, Or.inr (Or.inr (Or.inl ⟨rfl, rfl⟩)), ⟨by omega, by omega⟩, by omega⟩
  · rw [if_neg (by decide), if_neg (by decide), if_pos rfl]
    by_cases z : (c : Int) ≤ 0
    · rw [if_pos z]; exact Or.inl rfl
    · rw [if_neg z]; right
      exact ⟨c - 1, r, Or.inr (Or.inl ⟨by omega, rfl⟩), ⟨by omega, by omega⟩, by omega⟩
  · rw [if_neg (by decide), if_neg (by decide), if_neg (by decide)]
    by_cases z : (r : Int) ≤ 0
    · rw [if_pos z]; exact Or.inl rfl
    · rw [if_neg z]; right
      exact ⟨c, r - 1, Or.inr (Or.inr (Or.inr ⟨rfl, by omega⟩)), ⟨by omega, by omega⟩, by omega⟩
theorem nb_bs {R : HP} (W : WR R) {c r c' r' : Nat} (hb : isB R c r) (hb' : isB R c' r') (hn : nb c r c' r') : ∃ s : Int, (0 ≤ s ∧ s < 4) ∧ bs R (9 * r + c : Nat) s = ((9 * r' + c' : Nat) : Int) := by
  have w := W.1
  unfold isB at hb hb'
  have e1 : ((9 * r + c : Nat) : Int) % 9 = c := by omega
  have e2 : ((9 * r + c : Nat) : Int) / 9 = r := by omega
  unfold bs
  rw [e1, e2]
  rcases hn with ⟨rfl, rfl⟩ | ⟨rfl, rfl⟩ | ⟨rfl, rfl⟩ | ⟨rfl, rfl⟩
  · exact ⟨0, by omega, by rw [if_pos rfl, if_neg (by omega)]; omega⟩
  · exact ⟨2, by omega, by rw [if_neg (by decide), if_neg (by decide), if_pos rfl, if_neg (by omega)]; omega⟩
  · exact ⟨1, by omega, by rw [if_neg (by decide), if_pos rfl, if_neg (by omega)]; omega⟩
  · exact ⟨3, by omega, by rw [if_neg (by decide), if_neg (by decide), if_neg (by decide), if_neg (by omega)]; omega⟩
/-- the same of the reference: 10 r + c -/
def mbs (R : HP) (b s : Int) : Int :=
  if b % 10 = 0 ∧ s = 0 then -1 else
  (if 0 ≤ b % 10 + (if s = 0 then -1 else if s = 1 then 1 else 0) ∧ b % 10 + (if s = 0 then -1 else if s = 1 then 1 else 0) < R 0 0 ∧ 0 ≤ b / 10 + (if s = 2 then -1 else if s = 3 then 1 else 0) ∧ b / 10 + (if s = 2 then -1 else if s = 3 then 1 else 0) < R 0 1 then
    10 * (b / 10 + (if s = 2 then -1 else if s = 3 then 1 else 0)) + (b % 10 + (if s = 0 then -1 else if s = 1 then 1 else 0)) else -1)
theorem mbs_nb {R : HP} (W : WR R) {c r : Nat} (hb : isB R c r) {s : Int} (hs : 0 ≤ s ∧ s < 4) : mbs R (10 * r + c : Nat) s = -1 ∨ ∃ c' r', nb c r c' r' ∧ isB R c' r' ∧ mbs R (10 * r + c : Nat) s = ((10 * r' + c' : Nat) : Int) := by
  have w := W.1
  unfold isB at hb
  have e1 : ((10 * r + c : Nat) : Int) % 10 = c := by omega
  have e2 : ((10 * r + c : Nat) : Int) / 10 = r := by omega
  unfold mbs
  rw [e1, e2]
  by_cases z : (c : Int) = 0 ∧ s = 0
  · rw [if_pos z]; exact Or.inl rfl
  · rw [if_neg z]
    rcases (show s = 0 ∨ s = 1 ∨ s = 2 ∨ s = 3 by omega) with rfl | rfl | rfl | rfl
    · right
      simp
      rw [if_pos (by omega)]
      exact ⟨c - 1, r, Or.inr (Or.inl ⟨by omega, rfl⟩), ⟨by omega, by omega⟩, by omega⟩
    · simp
      by_cases q : (c : Int) + 1 < R 0 0
      · right
        rw [if_pos (by omega)]
        exact ⟨c + 1, r, Or.inl ⟨rfl, rfl⟩, ⟨by omega, by omega⟩, by omega⟩
      · left
        first | omega | (intros; omega) | rw [if_neg (by omega)]
    · simp
      by_cases q : 0 < r
      · right
        rw [if_pos (by omega)]
        exact ⟨c, r - 1, Or.inr (Or.inr (Or.inr ⟨rfl, by omega⟩)), ⟨by omega, by omega⟩, by omega⟩
      · left
        first | omega | (intros; omega) | rw [if_neg (by omega)]
    · simp
      by_cases q : (r : Int) + 1 < R 0 1
      · right
        rw [if_pos (by omega)]
        exact ⟨c, r + 1, Or.inr (Or.inr (Or.inl ⟨rfl, rfl⟩)), ⟨by omega, by omega⟩, by omega⟩
      · left
        first | omega | (intros; omega) | rw [if_neg (by omega)]
theorem nb_mbs {R : HP} (W : WR R) {c r c' r' : Nat} (hb : isB R c r) (hb' : isB R c' r') (hn : nb c r c' r') : ∃ s : Int, (0 ≤ s ∧ s < 4) ∧ mbs R (10 * r + c : Nat) s = ((10 * r' + c' : Nat) : Int) := by
  have w := W.1
  unfold isB at hb hb'
  have e1 : ((10 * r + c : Nat) : Int) % 10 = c := by omega
  have e2 : ((10 * r + c : Nat) : Int) / 10 = r := by omega
  unfold mbs
  rw [e1, e2]
  rcases hn with ⟨rfl, rfl⟩ | ⟨rfl, rfl⟩ | ⟨rfl, rfl⟩ | ⟨rfl, rfl⟩
  · refine ⟨1, by omega, ?_⟩
    simp
    first | omega | (intros; omega) | (rw [if_pos (by omega)]; omega)
  · refine ⟨0, by omega, ?_⟩
    simp
    omega
  · refine ⟨3, by omega, ?_⟩
    simp
    first | omega | (intros; omega) | (rw [if_pos (by omega)]; omega)
  · refine ⟨2, by omega, ?_⟩
    simp
    first | omega | (intros; omega) | (rw [if_pos (by omega)]; omega)
