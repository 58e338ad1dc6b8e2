/-! ===== GAMES: moves, values ===== -/
def sgL (l : Int) : Int := if l = 0 then 1 else -1
def mvG (R : HP) (l : Int) (r : Nat) : HP := if (r : Int) < R 0 1 then hs R 1 r (R 1 r + sgL l) else R
def Mo (R : HP) (l : Int) (r : Nat) : Prop := ((r : Int) < R 0 1 ∧ 0 < rIn R (1 - l) r) ∨ ((r : Int) = R 0 1 ∧ ∀ s : Nat, (s : Int) < R 0 1 → rIn R (1 - l) s ≤ 0)
theorem Mo_le {R : HP} {l : Int} {r : Nat} (m : Mo R l r) : (r : Int) ≤ R 0 1 := by
  rcases m with m | m <;> omega
theorem WR_cutG {R : HP} (W : WR R) {r : Nat} {v : Int} (hv : 0 ≤ v ∧ v ≤ R 0 0) : WR (hs R 1 r v) := by
  refine ⟨?_, fun s hs' => ?_, fun i hi => ?_, fun i j hij hj => ?_, ?_⟩
  · rw [hs_ne (k' := 0) (by decide)]; exact W.1
  · rw [hs_ne (k' := 0) (by decide)] at hs' ⊢
    by_cases z : s = r
    · subst z; rw [hs_s]; exact hv
    · rw [hs_o (Or.inr z)]; exact W.2.1 s hs'
  · rw [hs_ne (k' := 0) (by decide)] at hi ⊢
    rw [hs_ne (k' := 2) (by decide), hs_ne (k' := 3) (by decide), hs_ne (k' := 4) (by decide), hs_ne (k' := 5) (by decide), hs_ne (k' := 6) (by decide), hs_ne (k' := 7) (by decide)]
    exact W.2.2.1 i hi
  · rw [hs_ne (k' := 0) (by decide)] at hj
    rw [hs_ne (k' := 2) (by decide), hs_ne (k' := 3) (by decide)]
    exact W.2.2.2.1 i j hij hj
  · rw [hs_ne (k' := 0) (by decide)]; exact W.2.2.2.2
theorem mvG_0 {R : HP} {l : Int} {r : Nat} : mvG R l r 0 = R 0 := by
  unfold mvG
  split
  · exact hs_ne (by decide)
  · rfl
theorem mvG_in {R : HP} {l : Int} {r : Nat} (hr : (r : Int) < R 0 1) : mvG R l r = hs R 1 r (R 1 r + sgL l) := if_pos hr
theorem mvG_out {R : HP} {l : Int} {r : Nat} (hr : ¬ (r : Int) < R 0 1) : mvG R l r = R := if_neg hr
theorem WR_mv {R : HP} (W : WR R) {l : Int} (hl : l = 0 ∨ l = 1) {r : Nat} (m : Mo R l r) : WR (mvG R l r) := by
  rcases m with m | m
  · rw [mvG_in m.1]
    have q := W.2.1 r m.1
    have p := m.2
    refine WR_cutG W ?_
    unfold rIn at p
    rcases hl with rfl | rfl
    · rw [if_neg (by decide)] at p; unfold sgL; rw [if_pos rfl]; omega
    · rw [if_pos (by decide)] at p; unfold sgL; rw [if_neg (by decide)]; omega
  · rw [mvG_out (by omega)]; exact W
theorem vLd_rg {R : HP} (W : WR R) : -990 ≤ vLd R ∧ vLd R ≤ 990 := by
  have a := rVal_rg W 0 0
  have b := rVal_rg W 1 1
  unfold vLd; omega
/-- the value with m moves left, l's turn -/
def Gv : Nat → Int → HP → Int → Prop
  | 0, _, R, v => v = vLd R
  | m + 1, l, R, v => (∃ r, Mo R l r ∧ Gv m (1 - l) (mvG R l r) v) ∧ ∀ r u, Mo R l r → Gv m (1 - l) (mvG R l r) u → sgL l * u ≤ sgL l * v
theorem sg_c {l : Int} (hl : l = 0 ∨ l = 1) : (l = 0 ∧ sgL l = 1) ∨ (l = 1 ∧ sgL l = -1) := by
  rcases hl with rfl | rfl
  · exact Or.inl ⟨rfl, rfl⟩
  · exact Or.inr ⟨rfl, rfl⟩
theorem Gv_rg : ∀ (m : Nat) {l : Int} {R : HP} {v : Int}, (l = 0 ∨ l = 1) → WR R → Gv m l R v → -990 ≤ v ∧ v ≤ 990
  | 0, l, R, v, hl, W, g => by
    have e : v = vLd R := g
    rw [e]; exact vLd_rg W
  | m + 1, l, R, v, hl, W, g => by
    obtain ⟨⟨r, mo, g'⟩, -⟩ := g
    exact Gv_rg m (by omega) (WR_mv W hl mo) g'
theorem Mo_ex {R : HP} (W : WR R) (l : Int) : ∃ r, Mo R l r := by
  by_cases z : ∃ s : Nat, (s : Int) < R 0 1 ∧ 0 < rIn R (1 - l) s
  · obtain ⟨s, a, b⟩ := z; exact ⟨s, Or.inl ⟨a, b⟩⟩
  · have w := W.1
    exact ⟨(R 0 1).toNat, Or.inr ⟨by omega, fun s hs' => by
      by_cases y : rIn R (1 - l) s ≤ 0
      · exact y
      · exact absurd ⟨s, hs', by omega⟩ z⟩⟩
/-- the best of finitely many -/
theorem ex_best (P : Nat → Prop) (F : Nat → Int → Prop) (hF : ∀ r, P r → ∃ v, F r v) (hb : ∀ r u, P r → F r u → -990 ≤ u ∧ u ≤ 990) (g : Int) (hg : g = 1 ∨ g = -1) (hx : ∃ r, P r) : ∃ v, (∃ r, P r ∧ F r v) ∧ ∀ r u, P r → F r u → g * u ≤ g * v := by
  obtain ⟨r0, p0⟩ := hx
  obtain ⟨v0, f0⟩ := hF r0 p0
  have b0 := hb r0 v0 p0 f0
  have key : ∀ (d : Nat) (v : Int), (∃ r, P r ∧ F r v) → 990 - g * v ≤ d → ∃ v, (∃ r, P r ∧ F r v) ∧ ∀ r u, P r → F r u → g * u ≤ g * v := by
    intro d
    induction d with
    | zero =>
      intro v e hd
      refine ⟨v, e, fun r u p f => ?_⟩
      have := hb r u p f
      rcases hg with rfl | rfl <;> omega
    | succ d ih =>
      intro v e hd
      by_cases z : ∃ r u, P r ∧ F r u ∧ g * v < g * u
      · obtain ⟨r, u, p, f, l⟩ := z
        exact ih u ⟨r, p, f⟩ (by omega)
      · refine ⟨v, e, fun r u p f => ?_⟩
        by_cases y : g * u ≤ g * v
        · exact y
        · exact absurd ⟨r, u, p, f, by omega⟩ z
  exact key (990 - g * v0).toNat v0 ⟨r0, p0, f0⟩ (by omega)
theorem Gv_ex : ∀ (m : Nat) {l : Int} {R : HP}, (l = 0 ∨ l = 1) → WR R → ∃ v, Gv m l R v
  | 0, _, R, _, _ => ⟨vLd R, rfl⟩
  | m + 1, l, R, hl, W =>
    ex_best (fun r => Mo R l r) (fun r v => Gv m (1 - l) (mvG R l r) v) (fun r p => Gv_ex m (by omega) (WR_mv W hl p)) (fun r u p f => Gv_rg m (by omega) (WR_mv W hl p) f) (sgL l) (by have := sg_c hl; omega) (Mo_ex W l)
theorem Gv_un {m : Nat} {l : Int} {R : HP} {v u : Int} (hl : l = 0 ∨ l = 1) (a : Gv m l R v) (b : Gv m l R u) : v = u := by
  cases m with
  | zero => exact Eq.trans a (Eq.symm b)
  | succ m =>
    obtain ⟨⟨r, p, f⟩, x⟩ := a
    obtain ⟨⟨r', p', f'⟩, x'⟩ := b
    have e1 := x r' u p' f'
    have e2 := x' r v p f
    rcases sg_c hl with ⟨-, s⟩ | ⟨-, s⟩ <;> rw [s] at e1 e2 <;> omega
/-! the states of the argument -/
def SG : Type := {R : HP // WR R}
def VG (z : SG) : Int := vLd z.1
def M0G (z y : SG) : Prop := ∃ r, Mo z.1 0 r ∧ y.1 = mvG z.1 0 r
def M1G (z y : SG) : Prop := ∃ r, Mo z.1 1 r ∧ y.1 = mvG z.1 1 r
theorem SG_eq {a b : SG} (e : a.1 = b.1) : a = b := Subtype.ext e
theorem Gv_B : ∀ (k : Nat) (y : SG) (v : Int), Gv (2 * k + 1) 1 y.1 v ↔ Bv VG M0G M1G k y v := by
  intro k
  induction k with
  | zero =>
    intro y v
    constructor
    · rintro ⟨⟨r, mo, g⟩, x⟩
      have eg : v = vLd (mvG y.1 1 r) := g
      refine ⟨⟨⟨mvG y.1 1 r, WR_mv y.2 (Or.inr rfl) mo⟩, ⟨r, mo, rfl⟩, eg.symm⟩, fun z mz => ?_⟩
      obtain ⟨r', mo', e'⟩ := mz
      have q := x r' (vLd (mvG y.1 1 r')) mo' rfl
      unfold VG
      rw [e']
      have s : sgL 1 = -1 := rfl
      rw [s] at q; omega
    · rintro ⟨⟨z, ⟨r, mo, e⟩, ev⟩, x⟩
      refine ⟨⟨r, mo, ?_⟩, fun r' u mo' g' => ?_⟩
      · show v = vLd (mvG y.1 1 r)
        rw [← e]; exact ev.symm
      · have eg : u = vLd (mvG y.1 1 r') := g'
        have q := x ⟨mvG y.1 1 r', WR_mv y.2 (Or.inr rfl) mo'⟩ ⟨r', mo', rfl⟩
        have q' : v ≤ vLd (mvG y.1 1 r') := q
        have s : sgL 1 = -1 := rfl
        rw [s]; omega
  | succ k ih =>
    have am : ∀ (z : SG) (v : Int), Gv (2 * k + 2) 0 z.1 v ↔ Am M0G (Bv VG M0G M1G k) z v := by
      intro z v
      constructor
      · rintro ⟨⟨r, mo, g⟩, x⟩
        refine ⟨⟨⟨mvG z.1 0 r, WR_mv z.2 (Or.inl rfl) mo⟩, ⟨r, mo, rfl⟩, (ih _ _).1 g⟩, fun y u my b => ?_⟩
        obtain ⟨r', mo', e'⟩ := my
        have q := x r' u mo' (by rw [← e']; exact (ih y u).2 b)
        have s : sgL 0 = 1 := rfl
        rw [s] at q; omega
      · rintro ⟨⟨y, ⟨r, mo, e⟩, b⟩, x⟩
        refine ⟨⟨r, mo, by rw [← e]; exact (ih y v).2 b⟩, fun r' u mo' g' => ?_⟩
        have q := x ⟨mvG z.1 0 r', WR_mv z.2 (Or.inl rfl) mo'⟩ u ⟨r', mo', rfl⟩ ((ih ⟨mvG z.1 0 r', WR_mv z.2 (Or.inl rfl) mo'⟩ u).1 g')
        have s : sgL 0 = 1 := rfl
        rw [s]; omega
    intro y v
    show Gv (2 * k + 2 + 1) 1 y.1 v ↔ _
    constructor
    · rintro ⟨⟨r, mo, g⟩, x⟩
      refine ⟨⟨⟨mvG y.1 1 r, WR_mv y.2 (Or.inr rfl) mo⟩, ⟨r, mo, rfl⟩, (am _ _).1 g⟩, fun z u mz b => ?_⟩
      obtain ⟨r', mo', e'⟩ := mz
      have q := x r' u mo' (by rw [← e']; exact (am z u).2 b)
      have s : sgL 1 = -1 := rfl
      rw [s] at q; omega
    · rintro ⟨⟨z, ⟨r, mo, e⟩, b⟩, x⟩
      refine ⟨⟨r, mo, by rw [← e]; exact (am z v).2 b⟩, fun r' u mo' g' => ?_⟩
      have q := x ⟨mvG y.1 1 r', WR_mv y.2 (Or.inr rfl) mo'⟩ u ⟨r', mo', rfl⟩ ((am ⟨mvG y.1 1 r', WR_mv y.2 (Or.inr rfl) mo'⟩ u).1 g')
      have s : sgL 1 = -1 := rfl
      rw [s]; omega
theorem Gv_A (k : Nat) (z : SG) (v : Int) : Gv (2 * k + 2) 0 z.1 v ↔ Am M0G (Bv VG M0G M1G k) z v := by
  constructor
  · rintro ⟨⟨r, mo, g⟩, x⟩
    refine ⟨⟨⟨mvG z.1 0 r, WR_mv z.2 (Or.inl rfl) mo⟩, ⟨r, mo, rfl⟩, (Gv_B k _ _).1 g⟩, fun y u my b => ?_⟩
    obtain ⟨r', mo', e'⟩ := my
    have q := x r' u mo' (by rw [← e']; exact (Gv_B k y u).2 b)
    have s : sgL 0 = 1 := rfl
    rw [s] at q; omega
  · rintro ⟨⟨y, ⟨r, mo, e⟩, b⟩, x⟩
    refine ⟨⟨r, mo, by rw [← e]; exact (Gv_B k y v).2 b⟩, fun r' u mo' g' => ?_⟩
    have q := x ⟨mvG z.1 0 r', WR_mv z.2 (Or.inl rfl) mo'⟩ u ⟨r', mo', rfl⟩ ((Gv_B k ⟨mvG z.1 0 r', WR_mv z.2 (Or.inl rfl) mo'⟩ u).1 g')
    have s : sgL 0 = 1 := rfl
    rw [s]; omega
/-- a move is taken back -/
theorem mv_back {R : HP} {l : Int} (hl : l = 0 ∨ l = 1) {r : Nat} (W : WR R) (hr : (r : Int) < R 0 1) (p : 0 < rIn R (1 - l) r) : Mo (mvG R l r) (1 - l) r ∧ mvG (mvG R l r) (1 - l) r = R := by
  have q := W.2.1 r hr
  have e : mvG R l r = hs R 1 r (R 1 r + sgL l) := mvG_in hr
  have s : sgL (1 - l) = - sgL l := by rcases hl with rfl | rfl <;> rfl
  constructor
  · refine Or.inl ⟨by rw [mvG_0]; exact hr, ?_⟩
    unfold rIn at p ⊢
    rw [e, hs_ne (k' := 0) (by decide), hs_s]
    rcases hl with rfl | rfl
    · rw [if_neg (by decide)] at p; rw [if_pos (by decide)]; have : sgL 0 = 1 := rfl; omega
    · rw [if_pos (by decide)] at p; rw [if_neg (by decide)]; have : sgL 1 = -1 := rfl; omega
  · rw [mvG_in (R := mvG R l r) (by rw [mvG_0]; exact hr), e, hs_s, s]
    exact hs_back (by omega)
theorem vLd_dn {R : HP} (W : WR R) {r : Nat} (hr : (r : Int) < R 0 1) (p : 0 < R 1 r) : vLd (mvG R 1 r) = vLd R - gnG R (R 1 r - 1) r := by
  have q := W.2.1 r hr
  have e : mvG R 1 r = hs R 1 r (R 1 r + sgL 1) := mvG_in hr
  have s : sgL 1 = -1 := rfl
  have W' : WR (mvG R 1 r) := by rw [e]; exact WR_cutG W (by omega)
  have u := vLd_up W' (r := r)
  have e1 : mvG R 1 r 1 r = R 1 r - 1 := by rw [e, hs_s]; omega
  rw [e1, show hs (mvG R 1 r) 1 r (R 1 r - 1 + 1) = R by rw [e]; exact hs_back (by omega)] at u
  have eg : gnG (mvG R 1 r) (R 1 r - 1) r = gnG R (R 1 r - 1) r := by
    rw [e]
    unfold gnG gnT rWo
    rw [hs_ne (k' := 0) (by decide), hs_ne (k' := 2) (by decide), hs_ne (k' := 3) (by decide), hs_ne (k' := 4) (by decide), hs_ne (k' := 5) (by decide), hs_ne (k' := 6) (by decide)]
  omega
/-- more rounds end as one does -/
theorem Gv_flat (k : Nat) {R : HP} (W : WR R) {v : Int} (g : Gv (2 * k + 1) 1 R v) : Gv 1 1 R v := by
  have fl := game_flat (V := VG) (M0 := M0G) (M1 := M1G) ?_ ?_ (fun k y => ?_) (fun k z => ?_) k ⟨R, W⟩ v ((Gv_B k ⟨R, W⟩ v).1 g)
  · exact (Gv_B 0 ⟨R, W⟩ v).2 fl
  · rintro z y ⟨r, mo, e⟩
    rcases mo with m | m
    · have b := mv_back (Or.inl rfl) z.2 m.1 m.2
      rw [← e] at b
      exact ⟨z, ⟨r, b.1, b.2.symm⟩, Int.le_refl _⟩
    · rw [mvG_out (by omega)] at e
      have ey : y = z := SG_eq e
      subst ey
      obtain ⟨s, mo⟩ := Mo_ex y.2 1
      refine ⟨⟨mvG y.1 1 s, WR_mv y.2 (Or.inr rfl) mo⟩, ⟨s, mo, rfl⟩, ?_⟩
      show vLd (mvG y.1 1 s) ≤ vLd y.1
      rcases mo with n | n
      · have p := n.2
        unfold rIn at p
        rw [if_pos (by decide)] at p
        have gr := gnG_rg y.2 (y.1 1 s - 1) s
        rw [vLd_dn y.2 n.1 p]; omega
      · rw [mvG_out (by omega)]; exact Int.le_refl _
  · rintro y z ⟨r, mo, e⟩
    rcases mo with m | m
    · have b := mv_back (Or.inr rfl) y.2 m.1 m.2
      rw [← e] at b
      exact ⟨y, ⟨r, b.1, b.2.symm⟩, fun z' mz => ⟨z', mz, Int.le_refl _⟩⟩
    · rw [mvG_out (by omega)] at e
      have ey : z = y := SG_eq e
      subst ey
      obtain ⟨s, mo⟩ := Mo_ex z.2 0
      refine ⟨⟨mvG z.1 0 s, WR_mv z.2 (Or.inl rfl) mo⟩, ⟨s, mo, rfl⟩, ?_⟩
      rcases mo with n | n
      · rintro z' ⟨r', mo', e'⟩
        have e'' : z'.1 = mvG (mvG z.1 0 s) 1 r' := e'
        have mo'' : Mo (mvG z.1 0 s) 1 r' := mo'
        have b := mv_back (Or.inl rfl) z.2 n.1 n.2
        have er : r' = s := by
          rcases mo'' with q | q
          · have q1 := q.1
            have q2 := q.2
            rw [mvG_0] at q1
            by_cases x : r' = s
            · exact x
            · have q3 := m.2 r' q1
              unfold rIn at q2 q3
              rw [if_pos (by decide)] at q2 q3
              rw [mvG_in n.1, hs_o (Or.inr x)] at q2
              omega
          · rcases b.1 with c | c
            · have q3 := q.2 s (by rw [mvG_0]; exact n.1)
              have c2 := c.2
              have c2' : 0 < rIn (mvG z.1 0 s) (1 - 1) s := by
                have b1 := b.1
                have e0 : (1 : Int) - (1 - 0) = 1 - 1 := by decide
                rw [e0] at c2
                exact c2
              omega
            · have := n.1
              rw [mvG_0] at c
              omega
        subst er
        have e3 : z'.1 = z.1 := e''.trans b.2
        exact ⟨z, ⟨r, Or.inr m, (mvG_out (by omega)).symm⟩, by unfold VG; rw [e3]; exact Int.le_refl _⟩
      · intro z' mz
        refine ⟨z', ?_, Int.le_refl _⟩
        have e4 : (⟨mvG z.1 0 s, WR_mv z.2 (Or.inl rfl) (Or.inr n)⟩ : SG) = z := SG_eq (mvG_out (by omega))
        rw [e4] at mz
        exact mz
  · obtain ⟨v, g⟩ := Gv_ex (2 * k + 1) (Or.inr rfl) y.2
    exact ⟨v, (Gv_B k y v).1 g⟩
  · obtain ⟨v, g⟩ := Gv_ex (2 * k + 2) (Or.inl rfl) z.2
    exact ⟨v, (Gv_A k z v).1 g⟩
/-- how a game ends: its value, and the first row that gives it -/
def FinG (R : HP) (m : Nat) (o : Int) (f : Nat) : Prop := Mo R 0 f ∧ Gv m 1 (mvG R 0 f) o ∧ (∀ r u, Mo R 0 r → Gv m 1 (mvG R 0 r) u → u ≤ o) ∧ ∀ r u, r < f → Mo R 0 r → Gv m 1 (mvG R 0 r) u → u < o
theorem FinG_flat {R : HP} (W : WR R) (k : Nat) {o : Int} {f : Nat} (F : FinG R (2 * k + 1) o f) : FinG R 1 o f := by
  have up : ∀ r u, Mo R 0 r → Gv 1 1 (mvG R 0 r) u → Gv (2 * k + 1) 1 (mvG R 0 r) u := by
    intro r u mo g
    have W' := WR_mv W (Or.inl rfl) mo
    obtain ⟨v, gv⟩ := Gv_ex (2 * k + 1) (Or.inr rfl) W'
    rw [Gv_un (Or.inr rfl) g (Gv_flat k W' gv)]
    exact gv
  exact ⟨F.1, Gv_flat k (WR_mv W (Or.inl rfl) F.1) F.2.1, fun r u mo g => F.2.2.1 r u mo (up r u mo g), fun r u hr mo g => F.2.2.2 r u hr mo (up r u mo g)⟩
theorem FinG_un {R : HP} {m : Nat} {o o' : Int} {f f' : Nat} (a : FinG R m o f) (b : FinG R m o' f') : o = o' ∧ f = f' := by
  have x := a.2.2.1 f' o' b.1 b.2.1
  have y := b.2.2.1 f o a.1 a.2.1
  have e : o = o' := by omega
  refine ⟨e, ?_⟩
  by_cases z : f < f'
  · have := b.2.2.2 f o z a.1 a.2.1; omega
  · by_cases z' : f' < f
    · have := a.2.2.2 f' o' z' b.1 b.2.1; omega
    · omega
