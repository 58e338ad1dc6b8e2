/-! ===== how many islands, how large ===== -/
noncomputable def cntC (R : HP) (p : Nat → Nat → Prop) : Int := @cnt R p (fun _ _ => Classical.propDecidable _)
theorem cntC_eq {R : HP} {p q : Nat → Nat → Prop} [∀ c r, Decidable (q c r)] (h : ∀ c r, isB R c r → (p c r ↔ q c r)) : cnt R q = cntC R p :=
  @cnt_congr R q p _ (fun _ _ => Classical.propDecidable _) (fun c r hb => (h c r hb).symm)
/-- the first board of its ISLAND -/
def fstB (S : Nat → Nat → Prop) (c r : Nat) : Prop := S c r ∧ ∀ c' r', S c' r' → Cn S c r c' r' → 10 * r + c ≤ 10 * r' + c'
theorem cnt_none {R : HP} {p : Nat → Nat → Prop} [∀ c r, Decidable (p c r)] (h : ∀ c r, isB R c r → ¬ p c r) : cnt R p = 0 := by
  unfold cnt
  apply sumF_zero
  intro r _ hr
  apply sumF_zero
  intro c _ hc
  rw [if_neg (h c r ⟨by omega, by omega⟩)]
theorem cnt_one {R : HP} {p : Nat → Nat → Prop} [∀ c r, Decidable (p c r)] {c0 r0 : Nat} (hb : isB R c0 r0) (h : ∀ c r, isB R c r → (p c r ↔ c = c0 ∧ r = r0)) : cnt R p = 1 := by
  have := cnt_upd (R := R) (p := fun _ _ => False) (q := p) hb (fun q => q) (fun c r q => (h c r q).trans ⟨fun y => Or.inr y, fun y => y.elim (fun z => z.elim) (fun z => z)⟩)
  rw [this, cnt_none (fun _ _ _ q => q)]
  rfl
theorem cnt_sum {R : HP} {n : Nat} {q : Nat → Nat → Nat → Prop} [∀ k c r, Decidable (q k c r)] {p : Nat → Nat → Prop} [∀ c r, Decidable (p c r)] (h : ∀ c r, isB R c r → sumF (fun k => if q k c r then (1 : Int) else 0) n 0 = if p c r then 1 else 0) : sumF (fun k => cnt R (q k)) n 0 = cnt R p := by
  have e : sumF (fun k => cnt R (q k)) n 0 = sumF (fun k => sumF (fun r => sumF (fun c => if q k c r then (1 : Int) else 0) (R 0 0).toNat 0) (R 0 1).toNat 0) n 0 := rfl
  rw [e, sumF_swap (f := fun k r => sumF (fun c => if q k c r then (1 : Int) else 0) (R 0 0).toNat 0)]
  unfold cnt
  apply sumF_congr
  intro r _ hr
  rw [sumF_swap (f := fun k c => if q k c r then (1 : Int) else 0)]
  apply sumF_congr
  intro c _ hc
  exact h c r ⟨by omega, by omega⟩
theorem fst_ex {S : Nat → Nat → Prop} : ∀ (m c r : Nat), 10 * r + c = m → S c r → ∃ c0 r0, fstB S c0 r0 ∧ Cn S c0 r0 c r := by
  intro m
  induction m using Nat.strongRecOn with
  | ind m ih =>
    intro c r e s
    by_cases h : ∃ c' r', S c' r' ∧ Cn S c r c' r' ∧ 10 * r' + c' < 10 * r + c
    · obtain ⟨c', r', s', cn, lt⟩ := h
      obtain ⟨c0, r0, f0, n0⟩ := ih (10 * r' + c') (by omega) c' r' rfl s'
      exact ⟨c0, r0, f0, Cn_tr n0 (Cn_sym cn s)⟩
    · refine ⟨c, r, ⟨s, fun c' r' s' cn => ?_⟩, Cn_refl⟩
      by_cases z : 10 * r + c ≤ 10 * r' + c'
      · exact z
      · exact absurd ⟨c', r', s', cn, by omega⟩ h
/-- labels are counted by first boards -/
theorem n_lab {R : HP} (W : WR R) {S : Nat → Nat → Prop} {L : Nat → Nat → Int} {n : Nat} {X : Nat → Prop} [DecidablePred X] (hS : ∀ c r, S c r → isB R c r) (hL : ∀ c r, S c r → 0 ≤ L c r ∧ L c r < n)
    (hE : ∀ c r c' r', S c r → S c' r' → (L c r = L c' r' ↔ Cn S c r c' r')) (hX : ∀ k : Nat, k < n → (X k ↔ ∃ c r, S c r ∧ L c r = k)) : sumF (fun k => if X k then (1 : Int) else 0) n 0 = cntC R (fstB S) := by
  have w := W.1
  have e1 : sumF (fun k => if X k then (1 : Int) else 0) n 0 = sumF (fun k => @cnt R (fun c r => fstB S c r ∧ L c r = k) (fun _ _ => Classical.propDecidable _)) n 0 := by
    apply sumF_congr
    intro k _ hk
    by_cases x : X k
    · rw [if_pos x]
      obtain ⟨c, r, s, l⟩ := (hX k (by omega)).mp x
      obtain ⟨c0, r0, f0, n0⟩ := fst_ex (10 * r + c) c r rfl s
      have l0 : L c0 r0 = k := ((hE c0 r0 c r f0.1 s).mpr n0).trans l
      symm
      refine @cnt_one R _ (fun _ _ => Classical.propDecidable _) c0 r0 (hS _ _ f0.1) (fun c' r' hb => ⟨fun q => ?_, fun q => ?_⟩)
      · have cn := (hE c0 r0 c' r' f0.1 q.1.1).mp (l0.trans q.2.symm)
        have a1 := f0.2 c' r' q.1.1 cn
        have a2 := q.1.2 c0 r0 f0.1 (Cn_sym cn f0.1)
        have b1 := hb.1
        have b2 := (hS _ _ f0.1).1
        omega
      · rw [q.1, q.2]; exact ⟨f0, l0⟩
    · rw [if_neg x]
      symm
      refine @cnt_none R _ (fun _ _ => Classical.propDecidable _) (fun c r hb q => x ?_)
      exact (hX k (by omega)).mpr ⟨c, r, q.1.1, q.2⟩
  rw [e1]
  refine @cnt_sum R n (fun k c r => fstB S c r ∧ L c r = k) (fun _ _ _ => Classical.propDecidable _) (fstB S) (fun _ _ => Classical.propDecidable _) (fun c r hb => ?_)
  by_cases f : fstB S c r
  · rw [if_pos f]
    have l := hL c r f.1
    rw [sumF_one (t := (L c r).toNat) _ _ (by omega) (by omega), if_pos ⟨f, by omega⟩]
    intro j _ _ hj
    rw [if_neg (fun q => hj (by omega))]
  · rw [if_neg f]
    apply sumF_zero
    intro j _ _
    rw [if_neg (fun q => f q.1)]
/-- the last number below n with a property, or 0 -/
noncomputable def lastP (p : Nat → Prop) (n : Nat) : Int := fld (fun i s => @ite Int (p i) (Classical.propDecidable _) (i : Int) s) n 0 0
theorem lastP_ok {p : Nat → Prop} : ∀ (d i : Nat) (s : Int), (∀ j, j < i → p j → (j : Int) ≤ s) → (s = 0 ∨ ∃ j : Nat, p j ∧ s = j) → s ≤ i → (∀ j, j < i + d → p j → (j : Int) ≤ fld (fun i s => @ite Int (p i) (Classical.propDecidable _) (i : Int) s) d i s) ∧ (fld (fun i s => @ite Int (p i) (Classical.propDecidable _) (i : Int) s) d i s = 0 ∨ ∃ j : Nat, p j ∧ fld (fun i s => @ite Int (p i) (Classical.propDecidable _) (i : Int) s) d i s = j)
  | 0, i, s, h1, h2, h3 => ⟨fun j hj => h1 j (by omega), h2⟩
  | d + 1, i, s, h1, h2, h3 => by
    by_cases q : p i
    · have e : (@ite Int (p i) (Classical.propDecidable _) (i : Int) s) = i := if_pos q
      have := lastP_ok (p := p) d (i + 1) (i : Int) (fun j hj pj => by omega) (Or.inr ⟨i, q, rfl⟩) (by omega)
      simp only [fld, e]
      exact ⟨fun j hj => this.1 j (by omega), this.2⟩
    · have e : (@ite Int (p i) (Classical.propDecidable _) (i : Int) s) = s := if_neg q
      have := lastP_ok (p := p) d (i + 1) s (fun j hj pj => by
        by_cases z : j = i
        · subst z; exact absurd pj q
        · exact h1 j (by omega) pj) h2 (by omega)
      simp only [fld, e]
      exact ⟨fun j hj => this.1 j (by omega), this.2⟩
/-- a maximum is the one -/
theorem max_u {p : Nat → Prop} {n : Nat} {v : Int} (h1 : ∀ j, p j → j < n ∧ (j : Int) ≤ v) (h2 : v = 0 ∨ ∃ j : Nat, p j ∧ v = j) (h3 : 0 ≤ v) : v = lastP p n := by
  have k := lastP_ok (p := p) n 0 0 (fun j hj => by omega) (Or.inl rfl) (by omega)
  have k1 : ∀ j, j < n → p j → (j : Int) ≤ lastP p n := fun j hj => k.1 j (by omega)
  have k2 : lastP p n = 0 ∨ ∃ j : Nat, p j ∧ lastP p n = j := k.2
  rcases h2 with a | ⟨j, a1, a2⟩
  · rcases k2 with b | ⟨i, b1, b2⟩
    · omega
    · have := (h1 i b1).2
      omega
  · have := k1 j (h1 j a1).1 a1
    rcases k2 with b | ⟨i, b1, b2⟩
    · omega
    · have := (h1 i b1).2
      omega
theorem sumF_app (f : Nat → Int) : ∀ (d i e : Nat), sumF f (d + e) i = sumF f d i + sumF f e (i + d)
  | 0, i, e => by simp [sumF]
  | d + 1, i, e => by
    have := sumF_app f d (i + 1) e
    rw [show d + 1 + e = (d + e) + 1 by omega]
    simp only [sumF]
    rw [this, show i + 1 + d = i + (d + 1) by omega]
    omega
theorem sumF_cut {f : Nat → Int} {d e : Nat} (h : e ≤ d) (hz : ∀ j, e ≤ j → j < d → f j = 0) : sumF f d 0 = sumF f e 0 := by
  have := sumF_app f e 0 (d - e)
  rw [show e + (d - e) = d by omega] at this
  rw [this, sumF_zero (d - e) (0 + e) (fun j h1 h2 => hz j (by omega) (by omega))]
  omega
theorem sumF_sh (f : Nat → Int) (a : Nat) : ∀ (d i : Nat), sumF f d (a + i) = sumF (fun j => f (a + j)) d i
  | 0, _ => rfl
  | d + 1, i => by
    simp only [sumF]
    rw [show a + i + 1 = a + (i + 1) by omega, sumF_sh f a d (i + 1)]
theorem sum70 (f : Nat → Int) : sumF f 70 0 = sumF (fun r => sumF (fun c => f (10 * r + c)) 10 0) 7 0 := by
  have key : ∀ n : Nat, sumF f (10 * n) 0 = sumF (fun r => sumF (fun c => f (10 * r + c)) 10 0) n 0 := by
    intro n
    induction n with
    | zero => rfl
    | succ n ih =>
      rw [show 10 * (n + 1) = 10 * n + 10 by omega, sumF_app, ih, sumF_app _ n 0 1]
      congr 1
      rw [Nat.zero_add, Nat.zero_add]
      have := sumF_sh f (10 * n) 10 0
      rw [Nat.add_zero] at this
      rw [this]
      exact (Int.add_zero _).symm
  exact key 7
/-- all 70 places of the reference's table, of which only boards count -/
theorem cnt70 {R : HP} (W : WR R) {p : Nat → Nat → Prop} [∀ c r, Decidable (p c r)] (f : Nat → Int) (hf : ∀ c r, c < 10 → r < 7 → f (10 * r + c) = if p c r then 1 else 0) (hp : ∀ c r, c < 10 → r < 7 → p c r → isB R c r) : sumF f 70 0 = cnt R p := by
  have w := W.1
  rw [sum70]
  have e : sumF (fun r => sumF (fun c => f (10 * r + c)) 10 0) 7 0 = sumF (fun r => sumF (fun c => if p c r then (1 : Int) else 0) (R 0 0).toNat 0) 7 0 := by
    apply sumF_congr
    intro r _ hr
    rw [sumF_congr (g := fun c => if p c r then (1 : Int) else 0) 10 0 (fun c _ hc => hf c r (by omega) (by omega))]
    exact sumF_cut (by omega) (fun j h1 h2 => by
      rw [if_neg (fun q => ?_)]
      have := (hp j r (by omega) (by omega) q).1
      omega)
  rw [e]
  unfold cnt
  exact sumF_cut (by omega) (fun j h1 h2 => by
    apply sumF_zero
    intro c _ hc
    rw [if_neg (fun q => ?_)]
    have := (hp c j (by omega) (by omega) q).2
    omega)
/-- the boards of an ISLAND -/
noncomputable def szI (R : HP) (c r : Nat) : Int := cntC R (fun c' r' => rLand R c' r' = rLand R c r ∧ Cn (SL R (rLand R c r)) c r c' r')
theorem szI_rg {R : HP} (W : WR R) (c r : Nat) : 0 ≤ szI R c r ∧ szI R c r ≤ 63 := @cnt_rg R W _ (fun _ _ => Classical.propDecidable _)
/-- a call that tells, and uses tables of its own -/
def ScM (g g1 : HP) : Prop := (∀ k, ¬ (110 ≤ k ∧ k ≤ 121) → k ≠ 103 → g1 k = g k) ∧ (∀ i, i = 3 ∨ i = 4 ∨ i = 10 ∨ i = 16 ∨ i = 17 ∨ i = 38 ∨ i = 39 → g1 103 i = g 103 i)
theorem ag_scr {n : Nat} {h : HP} {ic im : Nat} {lc lm : List AV} {v : AV} {st : Int} (hR : Rel n h)
    (hc : ∀ Q : PQ, (∀ h1, (∀ k, ¬ (82 ≤ k ∧ k ≤ 98) → h1 k = h k) → Q (some v) (hs h1 0 0 st)) → Wp true ic 0 lc [] h Q)
    (hm : ∀ (g : HP) (Q : PQ), rmM g 0 = rmC h 10 → (∀ k, 103 ≤ k → g k = h k) → (∀ g1, ScM g g1 → Q (some v) (hs g1 103 2 st)) → Wp true im 0 lm [] g Q) : Agree n h ic im lc lm := by
  refine ⟨v, fun h1 => ∃ h0, (∀ k, ¬ (82 ≤ k ∧ k ≤ 98) → h0 k = h k) ∧ h1 = hs h0 0 0 st, fun h1 e => ?_, fun Q k => hc Q (fun h1 a => k _ ⟨h1, a, rfl⟩), fun h1 Q e k => ?_⟩
  · obtain ⟨h0, a, rfl⟩ := e
    exact ⟨(hs_ne (by decide)).trans (a 1000 (by decide)), (hs_ne (by decide)).trans (a 1001 (by decide))⟩
  · obtain ⟨h0, a, rfl⟩ := e
    have s := hR.2.2.2.2.2.1
    have gk : ∀ k, 103 ≤ k → hs h0 0 0 st k = h k := fun k hk => (hs_ne (by omega)).trans (a k (by omega))
    refine hm _ Q ((rmM_congr (gk 104 (by decide))).trans s.1.symm) gk (fun g1 d => ?_)
    refine k _ (Rel_keep hR ?_ (fun i hi => ?_) (fun i hi => ?_) (fun k k1 k2 k3 k4 => ?_)) ?_ ?_
    · have e0 : hs g1 103 2 st 0 0 = st := by
        rw [hs_ne (by decide), d.1 0 (by decide) (by decide)]; exact hs_s
      rw [e0]; exact hs_s.symm
    · rw [hs_ne (by decide), d.1 0 (by decide) (by decide), hs_o (Or.inr hi), a 0 (by decide)]
    · rw [hs_o (by omega), d.2 i hi, gk 103 (by decide)]
    · have k5 : ¬ (110 ≤ k ∧ k ≤ 121) := fun q => by
        have : scr k = true := by simp [scr]; omega
        rw [this] at k4; exact absurd k4 (by decide)
      have k6 : ¬ (82 ≤ k ∧ k ≤ 98) := fun q => by
        have : scr k = true := by simp [scr]; omega
        rw [this] at k4; exact absurd k4 (by decide)
      rw [hs_ne k3, d.1 k k5 k3, hs_ne k2, a k k6]
    · rw [hs_ne (by decide), d.1 1000 (by decide) (by decide), gk 1000 (by decide)]
    · rw [hs_ne (by decide), d.1 1001 (by decide) (by decide), gk 1001 (by decide)]
theorem ScM_0 {g g1 : HP} (h : ∀ k, ¬ (110 ≤ k ∧ k ≤ 121) → g1 k = g k) : ScM g g1 := ⟨fun k k1 _ => h k k1, fun i _ => by rw [h 103 (by decide)]⟩
