/-! ===== GIVE and ASK: the numbers ===== -/
noncomputable def mxK (p : Nat → Prop) (f : Nat → Int) (n : Nat) : Int := -mnK p (fun k => -f k) n
theorem mxK_0 {p : Nat → Prop} {f : Nat → Int} : mxK p f 0 = -1000000 := rfl
theorem mxK_t {p : Nat → Prop} {f : Nat → Int} {n : Nat} (h : p n) : mxK p f (n + 1) = max (mxK p f n) (f n) := by
  simp only [mxK, mnK]; rw [cho_t h]; omega
theorem mxK_f {p : Nat → Prop} {f : Nat → Int} {n : Nat} (h : ¬ p n) : mxK p f (n + 1) = mxK p f n := by
  simp only [mxK, mnK]; rw [cho_f h]
theorem mxK_ge {p : Nat → Prop} {f : Nat → Int} {n k : Nat} (h : k < n) (pk : p k) : f k ≤ mxK p f n := by
  have := mnK_le (f := fun k => -f k) h pk
  unfold mxK; omega
theorem mxK_lo {p : Nat → Prop} {f : Nat → Int} (n : Nat) : -1000000 ≤ mxK p f n := by
  have := mnK_far (p := p) (f := fun k => -f k) n
  unfold mxK; omega
theorem mxK_at {p : Nat → Prop} {f : Nat → Int} {n : Nat} (h : -1000000 < mxK p f n) : ∃ k, k < n ∧ p k ∧ f k = mxK p f n := by
  obtain ⟨k, a, b, c⟩ := mnK_at (p := p) (f := fun k => -f k) n (by unfold mxK at h; omega)
  exact ⟨k, a, b, by unfold mxK; omega⟩
theorem mxK_skip {p : Nat → Prop} {f : Nat → Int} {a : Nat} (d : Nat) (h : ∀ k, a ≤ k → k < a + d → ¬ p k) : mxK p f (a + d) = mxK p f a := by
  unfold mxK; rw [mnK_skip d h]
def hoK (R : HP) (L : Int) (t : Nat) : Int := if R 6 t < 0 then (if L ≤ R 2 t then 1 else 0) else R 6 t
theorem hoK_c (R : HP) (L : Int) (t : Nat) : (R 6 t < 0 ∧ L ≤ R 2 t ∧ hoK R L t = 1) ∨ (R 6 t < 0 ∧ ¬ L ≤ R 2 t ∧ hoK R L t = 0) ∨ (¬ R 6 t < 0 ∧ hoK R L t = R 6 t) := by
  unfold hoK
  by_cases a : R 6 t < 0
  · rw [if_pos a]
    by_cases b : L ≤ R 2 t
    · rw [if_pos b]; exact Or.inl ⟨a, b, rfl⟩
    · rw [if_neg b]; exact Or.inr (Or.inl ⟨a, b, rfl⟩)
  · rw [if_neg a]; exact Or.inr (Or.inr ⟨a, rfl⟩)
def lnG (R : HP) (gv : Int) (r k : Nat) : Int := R 1 r + (if gv = 0 then -(k : Int) else (k : Int))
def vT (R : HP) (ld L : Int) (r t : Nat) : Int := if R 3 t = (r : Int) ∧ hoK R L t = ld then rWo R ld t else 0
def vG (R : HP) (ld gv : Int) (r k : Nat) : Int := sumF (fun t => vT R ld (lnG R gv r k) r t) (R 0 3).toNat 0
def chT (R : HP) (ld gv c : Int) (r t : Nat) : Int := if R 3 t = (r : Int) ∧ R 6 t < 0 ∧ R 2 t = c then (if gv = ld then -rWo R ld t else rWo R ld t) else 0
def chG (R : HP) (ld gv c : Int) (r : Nat) : Int := sumF (fun t => chT R ld gv c r t) (R 0 3).toNat 0
def coG (R : HP) (gv : Int) (r k : Nat) : Int := if gv = 0 then R 1 r - (k : Int) else R 1 r + (k : Int) - 1
theorem vG_step {R : HP} {ld gv : Int} (hl : ld = 0 ∨ ld = 1) (hg : gv = 0 ∨ gv = 1) (r k : Nat) : vG R ld gv r (k + 1) = vG R ld gv r k + chG R ld gv (coG R gv r (k + 1)) r := by
  unfold vG chG
  rw [← sumF_add]
  refine sumF_congr _ _ (fun t _ _ => ?_)
  have a := hoK_c R (lnG R gv r (k + 1)) t
  have b := hoK_c R (lnG R gv r k) t
  unfold vT chT
  generalize hoK R (lnG R gv r (k + 1)) t = x at a ⊢
  generalize hoK R (lnG R gv r k) t = y at b ⊢
  unfold lnG at a b
  unfold coG
  generalize rWo R ld t = w
  rcases hl with rfl | rfl <;> rcases hg with rfl | rfl
  · rw [if_pos rfl] at a b
    (repeat' split) <;> omega
  · rw [if_neg (by decide)] at a b
    (repeat' split) <;> omega
  · rw [if_pos rfl] at a b
    (repeat' split) <;> omega
  · rw [if_neg (by decide)] at a b
    (repeat' split) <;> omega
theorem rWo_b {R : HP} (W : WR R) {ld : Int} {t : Nat} (ht : (t : Int) < R 0 3) : 0 ≤ rWo R ld t ∧ rWo R ld t ≤ 99 := by
  have := W.2.2.1 t ht
  unfold rWo
  by_cases z : ld = 0
  · rw [if_pos z]; omega
  · rw [if_neg z]; omega
theorem vG_rg {R : HP} (W : WR R) (ld gv : Int) (r k : Nat) : 0 ≤ vG R ld gv r k ∧ vG R ld gv r k ≤ 990 := by
  have w := W.1
  have := sumF_rng (f := fun t => vT R ld (lnG R gv r k) r t) (a := 0) (b := 99) (R 0 3).toNat 0 (fun j _ h => by
    have := rWo_b W (ld := ld) (t := j) (by omega)
    unfold vT
    split <;> omega)
  unfold vG
  omega
theorem chG_rg {R : HP} (W : WR R) (ld gv c : Int) (r : Nat) : -990 ≤ chG R ld gv c r ∧ chG R ld gv c r ≤ 990 := by
  have w := W.1
  have := sumF_rng (f := fun t => chT R ld gv c r t) (a := -99) (b := 99) (R 0 3).toNat 0 (fun j _ h => by
    have := rWo_b W (ld := ld) (t := j) (by omega)
    unfold chT
    split
    · split <;> omega
    · omega)
  unfold chG
  omega
theorem rVal_v {R : HP} (W : WR R) (ld gv : Int) : rVal R ld ld = sumF (fun r => vG R ld gv r 0) (R 0 1).toNat 0 := by
  unfold vG
  rw [sumF_swap]
  unfold rVal
  refine sumF_congr _ _ (fun t _ h => ?_)
  have w := W.1
  have q := W.2.2.1 t (by omega)
  rw [sumF_one (t := (R 3 t).toNat) (R 0 1).toNat 0 (by omega) (by omega) (fun j _ _ hj => by
    unfold vT
    rw [if_neg (by omega)])]
  unfold vT
  have e : hoK R (lnG R gv (R 3 t).toNat 0) t = rHo R t := by
    have : lnG R gv (R 3 t).toNat 0 = R 1 (R 3 t).toNat := by
      unfold lnG
      split <;> omega
    rw [this]; rfl
  rw [e]
  by_cases z : rHo R t = ld
  · rw [if_pos z, if_pos ⟨by omega, z⟩]
  · rw [if_neg z, if_neg (fun y => z y.2)]
/-! the table -/
noncomputable def ppd (R : HP) (ld gv : Int) : Nat → Nat → Int
  | 0, n => if n = 0 then 0 else -1000000
  | d + 1, n => mxK (fun k => (k : Int) ≤ rIn R gv ((R 0 1).toNat - (d + 1))) (fun k => vG R ld gv ((R 0 1).toNat - (d + 1)) k + ppd R ld gv d (n - k)) (n + 1)
noncomputable def pP (R : HP) (ld gv : Int) (r n : Nat) : Int := ppd R ld gv ((R 0 1).toNat - r) n
noncomputable def fG (R : HP) (ld gv : Int) (r n k : Nat) : Int := vG R ld gv r k + pP R ld gv (r + 1) (n - k)
def qG (R : HP) (gv : Int) (r k : Nat) : Prop := (k : Int) ≤ rIn R gv r
theorem pP_end {R : HP} {ld gv : Int} {r n : Nat} (h : (r : Int) = R 0 1) : pP R ld gv r n = if n = 0 then 0 else -1000000 := by
  unfold pP
  rw [show (R 0 1).toNat - r = 0 by omega]
  rfl
theorem pP_s {R : HP} {ld gv : Int} {r n : Nat} (h : (r : Int) < R 0 1) : pP R ld gv r n = mxK (qG R gv r) (fG R ld gv r n) (n + 1) := by
  show ppd R ld gv ((R 0 1).toNat - r) n = _
  rw [show (R 0 1).toNat - r = ((R 0 1).toNat - (r + 1)) + 1 by omega]
  simp only [ppd]
  rw [show (R 0 1).toNat - (((R 0 1).toNat - (r + 1)) + 1) = r by omega]
  rfl
def aG (R : HP) (gv : Int) (r : Nat) : Int := sumF (fun r => rIn R gv r) ((R 0 1).toNat - r) r
def sG (R : HP) (ld gv : Int) (r : Nat) : Int := sumF (fun r => vG R ld gv r 0) ((R 0 1).toNat - r) r
theorem aG_s {R : HP} {gv : Int} {r : Nat} (h : (r : Int) < R 0 1) : aG R gv r = rIn R gv r + aG R gv (r + 1) := by
  unfold aG
  rw [show (R 0 1).toNat - r = ((R 0 1).toNat - (r + 1)) + 1 by omega]
  rfl
theorem sG_s {R : HP} {ld gv : Int} {r : Nat} (h : (r : Int) < R 0 1) : sG R ld gv r = vG R ld gv r 0 + sG R ld gv (r + 1) := by
  unfold sG
  rw [show (R 0 1).toNat - r = ((R 0 1).toNat - (r + 1)) + 1 by omega]
  rfl
theorem aG_e {R : HP} {gv : Int} {r : Nat} (h : (r : Int) = R 0 1) : aG R gv r = 0 := by
  unfold aG
  rw [show (R 0 1).toNat - r = 0 by omega]
  rfl
theorem sG_e {R : HP} {ld gv : Int} {r : Nat} (h : (r : Int) = R 0 1) : sG R ld gv r = 0 := by
  unfold sG
  rw [show (R 0 1).toNat - r = 0 by omega]
  rfl
theorem sG_rg {R : HP} (W : WR R) (ld gv : Int) (r : Nat) : 0 ≤ sG R ld gv r ∧ sG R ld gv r ≤ 6930 := by
  have w := W.1
  have := sumF_rng (f := fun r => vG R ld gv r 0) (a := 0) (b := 990) ((R 0 1).toNat - r) r (fun j _ h => vG_rg W ld gv j 0)
  unfold sG
  omega
theorem rIn_b {R : HP} (W : WR R) {gv : Int} {r : Nat} (h : (r : Int) < R 0 1) : 0 ≤ rIn R gv r ∧ rIn R gv r ≤ 9 := by
  have w := W.1
  have := W.2.1 r h
  unfold rIn
  split <;> omega
theorem pP_ok {R : HP} (W : WR R) {ld gv : Int} : ∀ (d r : Nat), (r : Int) + d = R 0 1 → ∀ n : Nat, ((n : Int) ≤ aG R gv r → 0 ≤ pP R ld gv r n ∧ pP R ld gv r n ≤ 990 * d) ∧ (¬ (n : Int) ≤ aG R gv r → pP R ld gv r n ≤ -1000000 + 990 * d) ∧ -1000000 ≤ pP R ld gv r n := by
  have w := W.1
  intro d
  induction d with
  | zero =>
    intro r e n
    rw [pP_end (by omega), aG_e (by omega)]
    by_cases z : n = 0
    · rw [if_pos z]; omega
    · rw [if_neg z]; omega
  | succ d ih =>
    intro r e n
    have ih := ih (r + 1) (by omega)
    rw [pP_s (by omega), aG_s (by omega)]
    have rb := rIn_b W (gv := gv) (r := r) (by omega)
    refine ⟨fun h => ⟨?_, ?_⟩, fun h => ?_, mxK_lo _⟩
    · obtain ⟨k, hk, hq, hn⟩ : ∃ k : Nat, k < n + 1 ∧ (k : Int) ≤ rIn R gv r ∧ ((n - k : Nat) : Int) ≤ aG R gv (r + 1) := by
        by_cases z : (n : Int) ≤ rIn R gv r
        · refine ⟨n, by omega, z, ?_⟩
          have : 0 ≤ aG R gv (r + 1) := by
            have := sumF_rng (f := fun r => rIn R gv r) (a := 0) (b := 9) ((R 0 1).toNat - (r + 1)) (r + 1) (fun j _ h => rIn_b W (by omega))
            unfold aG; omega
          omega
        · exact ⟨(rIn R gv r).toNat, by omega, by omega, by omega⟩
      have a := mxK_ge (p := qG R gv r) (f := fG R ld gv r n) hk hq
      have b := ((ih (n - k)).1 hn).1
      have c := vG_rg W ld gv r k
      change vG R ld gv r k + pP R ld gv (r + 1) (n - k) ≤ _ at a
      omega
    · by_cases z : -1000000 < mxK (qG R gv r) (fG R ld gv r n) (n + 1)
      · obtain ⟨k, k1, k2, k3⟩ := mxK_at z
        have c := vG_rg W ld gv r k
        rw [← k3]
        unfold fG
        have i := ih (n - k)
        by_cases y : ((n - k : Nat) : Int) ≤ aG R gv (r + 1)
        · have := (i.1 y).2; omega
        · have := i.2.1 y; omega
      · omega
    · by_cases z : -1000000 < mxK (qG R gv r) (fG R ld gv r n) (n + 1)
      · obtain ⟨k, k1, k2, k3⟩ := mxK_at z
        have c := vG_rg W ld gv r k
        unfold qG at k2
        have i := (ih (n - k)).2.1 (by omega)
        rw [← k3]
        unfold fG
        omega
      · omega
theorem pP_rg {R : HP} (W : WR R) {ld gv : Int} {r n : Nat} (h : (r : Int) ≤ R 0 1) : ((n : Int) ≤ aG R gv r → 0 ≤ pP R ld gv r n ∧ pP R ld gv r n ≤ 6930) ∧ (¬ (n : Int) ≤ aG R gv r → pP R ld gv r n ≤ -993070) ∧ (-1000000 ≤ pP R ld gv r n ∧ pP R ld gv r n ≤ 6930) := by
  have w := W.1
  have q := pP_ok W (ld := ld) (gv := gv) ((R 0 1).toNat - r) r (by omega) n
  refine ⟨fun z => ?_, fun z => ?_, ?_⟩
  · have := q.1 z; omega
  · have := q.2.1 z; omega
  · by_cases z : (n : Int) ≤ aG R gv r
    · have := q.1 z; omega
    · have := q.2.1 z; have := q.2.2; omega
theorem aG_0 {R : HP} {gv : Int} : aG R gv 0 = rByLine R gv := rfl
theorem sG_0 {R : HP} (W : WR R) {ld gv : Int} : sG R ld gv 0 = rVal R ld ld := (rVal_v W ld gv).symm
/-- what is attained, is attained by what the rows behind have -/
theorem pP_hit {R : HP} (W : WR R) {ld gv : Int} {r n k : Nat} (h : (r : Int) < R 0 1) (hn : (n : Int) ≤ aG R gv r) (e : fG R ld gv r n k = pP R ld gv r n) : ((n - k : Nat) : Int) ≤ aG R gv (r + 1) := by
  by_cases z : ((n - k : Nat) : Int) ≤ aG R gv (r + 1)
  · exact z
  · exfalso
    have a := (pP_rg W (ld := ld) (gv := gv) (r := r + 1) (n := n - k) (by omega)).2.1 z
    have b := ((pP_rg W (ld := ld) (gv := gv) (r := r) (n := n) (by omega)).1 hn).1
    have c := vG_rg W ld gv r k
    unfold fG at e
    omega
noncomputable def gK (R : HP) (ld gv : Int) (r n : Nat) : Nat := fK (qG R gv r) (fG R ld gv r n) (pP R ld gv r n) (n + 1)
theorem gK_ok {R : HP} (W : WR R) {ld gv : Int} {r n : Nat} (h : (r : Int) < R 0 1) (hn : (n : Int) ≤ aG R gv r) : FK (qG R gv r) (fG R ld gv r n) (pP R ld gv r n) (n + 1) (gK R ld gv r n) := by
  refine FK_ex ?_
  have b := ((pP_rg W (ld := ld) (gv := gv) (r := r) (n := n) (by omega)).1 hn).1
  rw [pP_s h] at b ⊢
  exact mxK_at (by omega)
noncomputable def lfG (R : HP) (ld gv : Int) (N : Nat) : Nat → Nat
  | 0 => N
  | r + 1 => lfG R ld gv N r - gK R ld gv r (lfG R ld gv N r)
theorem lfG_ok {R : HP} (W : WR R) {ld gv : Int} {N : Nat} (hN : (N : Int) ≤ aG R gv 0) : ∀ r : Nat, (r : Int) ≤ R 0 1 → lfG R ld gv N r ≤ N ∧ (lfG R ld gv N r : Int) ≤ aG R gv r := by
  intro r
  induction r with
  | zero => intro _; exact ⟨Nat.le_refl _, hN⟩
  | succ r ih =>
    intro h
    have i := ih (by omega)
    have g := gK_ok W (ld := ld) (gv := gv) (by omega) i.2
    have q := pP_hit W (by omega) i.2 g.2.2.1
    simp only [lfG]
    exact ⟨by omega, q⟩
