/-! ===== TALKS as numbers are run: Z 0 = at, done, missed, yielded 0, yielded 1, nights, drawn; Z 1 the rounds left of loops ===== -/
def drw (z : Int) : Int := (z * 2957 + 11159) % 65536
def rwA (R : HP) (z : Int) : Nat := (drw z / 8 % R 0 1).toNat
def acR (T R : HP) (z : Int) (e : Nat) : HP :=
  if T 0 e = 9 then aYield R (T 1 e) (T 2 e).toNat (T 3 e) else if T 0 e = 10 then aNight R else if T 0 e = 11 then aSweep R (T 1 e).toNat
  else if T 0 e = 12 then (if rOn R (T 2 e) (T 3 e) = -1 then aMove R (T 1 e).toNat (T 2 e) (T 3 e) else R)
  else if T 0 e = 13 then (if R 0 1 ≤ 0 then R else aYield R (T 1 e) (rwA R z) 1) else R
def acM (T R : HP) (z : Int) (e : Nat) : Int :=
  if T 0 e = 9 then mvd R (T 1 e) (T 2 e).toNat (T 3 e) else if T 0 e = 13 then (if R 0 1 ≤ 0 then 0 else mvd R (T 1 e) (rwA R z) 1) else 0
def acK (T R : HP) (z : Int) (e : Nat) : Int :=
  if T 0 e = 9 then bi (0 < mvd R (T 1 e) (T 2 e).toNat (T 3 e)) else if T 0 e = 11 then bi (¬ swp R (T 1 e).toNat = R 1 (T 1 e).toNat)
  else if T 0 e = 12 then bi (rOn R (T 2 e) (T 3 e) = -1) else if T 0 e = 13 then (if R 0 1 ≤ 0 then 0 else bi (0 < mvd R (T 1 e) (rwA R z) 1)) else 1
def acD (T R : HP) (z : Int) (e : Nat) : Int := if T 0 e = 13 ∧ ¬ R 0 1 ≤ 0 then drw z else z
def vlT (T R : HP) (e : Nat) : Int := if T 0 e = 1519 then rBoards R (T 1 e) else rVal R (T 1 e) (T 1 e)
def hlT (T R : HP) (e : Nat) : Prop := (T 0 e = 1521 ∧ rHo R (T 2 e).toNat = T 1 e) ∨ (¬ T 0 e = 1521 ∧ ((T 5 e = 60 ∧ vlT T R e < T 2 e) ∨ (T 5 e = 62 ∧ T 2 e < vlT T R e) ∨ (¬ T 5 e = 60 ∧ ¬ T 5 e = 62 ∧ vlT T R e = T 2 e)))
noncomputable def nxT (T R : HP) (n : Int) (e : Nat) : Int := if T 0 e = 18 then n else if 1519 ≤ T 0 e then cho (hlT T R e) ((e : Int) + 1) (T 4 e + 1) else (e : Int) + 1
noncomputable def stZ (T R Z : HP) (n : Int) (e : Nat) : HP := fun k i =>
  if k = 0 then
    (if i = 0 then nxT T R n e else if i = 1 then Z 0 1 + 1 else if i = 2 then Z 0 2 + (1 - acK T R (Z 0 6) e)
     else if i = 3 then Z 0 3 + (if T 1 e = 0 then acM T R (Z 0 6) e else 0) else if i = 4 then Z 0 4 + (if T 1 e = 0 then 0 else acM T R (Z 0 6) e)
     else if i = 5 then Z 0 5 + (if T 0 e = 10 then 1 else 0) else if i = 6 then acD T R (Z 0 6) e else Z 0 i)
  else if k = 1 ∧ i = e ∧ T 0 e = 16 then (if T 4 e = (e : Int) + 1 then 0 else T 1 e - 1) else Z k i
def agT (T Z : HP) (e : Nat) : Prop := T 0 (T 4 e).toNat = 16 ∧ 0 < Z 1 (T 4 e).toNat
noncomputable def enZ (T Z : HP) (e : Nat) : HP := fun k i =>
  if k = 0 ∧ i = 0 then cho (agT T Z e) (T 4 e + 1) ((e : Int) + 1) else if k = 1 ∧ i = (T 4 e).toNat then cho (agT T Z e) (Z 1 i - 1) (Z 1 i) else Z k i
def hlP (T : HP) (n : Int) (Z : HP) : Prop := n ≤ Z 0 0 ∨ (¬ T 0 (Z 0 0).toNat = 17 ∧ 300 ≤ Z 0 1)
noncomputable def tnP (T : HP) (n : Int) (s : HP × HP) : HP × HP :=
  if T 0 (s.2 0 0).toNat = 17 then (s.1, enZ T s.2 (s.2 0 0).toNat) else (acR T s.1 (s.2 0 6) (s.2 0 0).toNat, stZ T s.1 s.2 n (s.2 0 0).toNat)
noncomputable def chS (P : Prop) (a b : HP × HP) : HP × HP := @ite (HP × HP) P (Classical.propDecidable _) a b
noncomputable def runP (T : HP) (n : Int) : Nat → HP × HP → HP × HP
  | 0, s => s
  | k + 1, s => chS (hlP T n s.2) s (runP T n k (tnP T n s))
theorem runP_h {T : HP} {n : Int} {s : HP × HP} (h : hlP T n s.2) : ∀ k, runP T n k s = s
  | 0 => rfl
  | _ + 1 => if_pos h
theorem runP_s {T : HP} {n : Int} {k : Nat} {s : HP × HP} (h : ¬ hlP T n s.2) : runP T n (k + 1) s = runP T n k (tnP T n s) := if_neg h
/-- what is kept while TALKS are run -/
def PI (T : HP) (n : Int) (R0 R Z : HP) : Prop :=
  (0 ≤ Z 0 0 ∧ Z 0 0 ≤ n) ∧ WR R ∧ SameD R0 R ∧ (0 ≤ Z 0 1 ∧ Z 0 1 ≤ 300) ∧ (0 ≤ Z 0 2 ∧ Z 0 2 ≤ Z 0 1) ∧ (0 ≤ Z 0 3 ∧ Z 0 3 ≤ 9 * Z 0 1) ∧ (0 ≤ Z 0 4 ∧ Z 0 4 ≤ 9 * Z 0 1) ∧ (0 ≤ Z 0 5 ∧ Z 0 5 ≤ Z 0 1) ∧ (0 ≤ Z 0 6 ∧ Z 0 6 ≤ 65535) ∧
  (R 0 4 = R0 0 4 + Z 0 3 ∧ R 0 5 = R0 0 5 + Z 0 4 ∧ R 0 6 = R0 0 6 + Z 0 5) ∧
  ∀ o : Nat, T 0 o = 16 → (o : Int) < Z 0 0 → Z 0 0 ≤ T 4 o → 0 ≤ Z 1 o ∧ Z 1 o ≤ 98 ∧ (T 4 o = (o : Int) + 1 → Z 1 o = 0)
theorem drw_rg (z : Int) : 0 ≤ drw z ∧ drw z ≤ 65535 := by unfold drw; omega
theorem rwA_rg {R : HP} (z : Int) (h : ¬ R 0 1 ≤ 0) : (rwA R z : Int) < R 0 1 ∧ (rwA R z : Int) = drw z / 8 % R 0 1 := by
  have a := Int.emod_nonneg (drw z / 8) (b := R 0 1) (by omega)
  have b := Int.emod_lt_of_pos (drw z / 8) (b := R 0 1) (by omega)
  unfold rwA
  omega
theorem acR_ok {T R : HP} {n : Int} (hT : WT T n R) (W : WR R) (z : Int) {e : Nat} (he : (e : Int) < n) : WR (acR T R z e) ∧ SameD R (acR T R z e) ∧
    (acR T R z e 0 4 = R 0 4 + (if T 1 e = 0 then acM T R z e else 0) ∧ acR T R z e 0 5 = R 0 5 + (if T 1 e = 0 then 0 else acM T R z e) ∧ acR T R z e 0 6 = R 0 6 + (if T 0 e = 10 then 1 else 0)) ∧ (0 ≤ acM T R z e ∧ acM T R z e ≤ 9) ∧ (acK T R z e = 0 ∨ acK T R z e = 1) := by
  have w := W.1
  have t := hT.2.2.1 e he
  have same : acR T R z e = R → acM T R z e = 0 → ¬ T 0 e = 10 → (acK T R z e = 0 ∨ acK T R z e = 1) → WR (acR T R z e) ∧ SameD R (acR T R z e) ∧
    (acR T R z e 0 4 = R 0 4 + (if T 1 e = 0 then acM T R z e else 0) ∧ acR T R z e 0 5 = R 0 5 + (if T 1 e = 0 then 0 else acM T R z e) ∧ acR T R z e 0 6 = R 0 6 + (if T 0 e = 10 then 1 else 0)) ∧ (0 ≤ acM T R z e ∧ acM T R z e ≤ 9) ∧ (acK T R z e = 0 ∨ acK T R z e = 1) := by
    intro a b c d
    rw [a, b, if_neg c]
    refine ⟨W, ⟨rfl, rfl, rfl⟩, ⟨?_, ?_, (Int.add_zero _).symm⟩, by omega, d⟩
    · split <;> omega
    · split <;> omega
  by_cases c9 : T 0 e = 9
  · have t9 : (T 1 e = 0 ∨ T 1 e = 1) ∧ (0 ≤ T 2 e ∧ T 2 e < R 0 1) ∧ (1 ≤ T 3 e ∧ T 3 e ≤ 9) := by
      rcases t with t | t | t | t | t | t | t | t | t <;> first | exact t.2 | omega
    have eR : acR T R z e = aYield R (T 1 e) (T 2 e).toNat (T 3 e) := if_pos c9
    have eM : acM T R z e = mvd R (T 1 e) (T 2 e).toNat (T 3 e) := if_pos c9
    have eK : acK T R z e = bi (0 < mvd R (T 1 e) (T 2 e).toNat (T 3 e)) := if_pos c9
    have b := aYield_b3 R (r := (T 2 e).toNat) (n := T 3 e) t9.1
    have m := mvd_rg W (l := T 1 e) (r := (T 2 e).toNat) (n := T 3 e) (by omega) t9.2.2
    rw [eR, eM, eK, if_neg (show ¬ T 0 e = 10 by omega), Int.add_zero]
    exact ⟨aYield_WR W t9.1 (by omega) t9.2.2, aYield_D R t9.1, b, by omega, bi_01 _⟩
  by_cases c10 : T 0 e = 10
  · have eR : acR T R z e = aNight R := by unfold acR; rw [if_neg c9, if_pos c10]
    have eM : acM T R z e = 0 := by unfold acM; rw [if_neg c9, if_neg (by omega)]
    have eK : acK T R z e = 1 := by unfold acK; rw [if_neg c9, if_neg (by omega), if_neg (by omega), if_neg (by omega)]
    have b := aNight_b W
    rw [eR, eM, eK, if_pos c10]
    refine ⟨aNight_WR W, aNight_D W, ⟨?_, ?_, b.2.2⟩, by omega, Or.inr rfl⟩
    · rw [b.1]; split <;> omega
    · rw [b.2.1]; split <;> omega
  by_cases c11 : T 0 e = 11
  · have t11 : 0 ≤ T 1 e ∧ T 1 e < R 0 1 := by
      rcases t with t | t | t | t | t | t | t | t | t <;> first | omega | exact t.2
    have eR : acR T R z e = aSweep R (T 1 e).toNat := by unfold acR; rw [if_neg c9, if_neg c10, if_pos c11]
    have eM : acM T R z e = 0 := by unfold acM; rw [if_neg c9, if_neg (by omega)]
    have eK : acK T R z e = bi (¬ swp R (T 1 e).toNat = R 1 (T 1 e).toNat) := by unfold acK; rw [if_neg c9, if_pos c11]
    have b := aSweep_ok W (r := (T 1 e).toNat) (by omega)
    rw [eR, eM, eK, if_neg c10]
    refine ⟨b.1, b.2.1, ⟨?_, ?_, ?_⟩, by omega, bi_01 _⟩
    · rw [b.2.2.2.1]; split <;> omega
    · rw [b.2.2.2.2.1]; split <;> omega
    · rw [b.2.2.2.2.2]; omega
  by_cases c12 : T 0 e = 12
  · have t12 : (0 ≤ T 1 e ∧ T 1 e < R 0 3) ∧ (0 ≤ T 2 e ∧ T 2 e < R 0 0) ∧ (0 ≤ T 3 e ∧ T 3 e < R 0 1) := by
      rcases t with t | t | t | t | t | t | t | t | t <;> first | omega | exact t.2
    have eM : acM T R z e = 0 := by unfold acM; rw [if_neg c9, if_neg (by omega)]
    have eK : acK T R z e = bi (rOn R (T 2 e) (T 3 e) = -1) := by unfold acK; rw [if_neg c9, if_neg c11, if_pos c12]
    by_cases y : rOn R (T 2 e) (T 3 e) = -1
    · have eR : acR T R z e = aMove R (T 1 e).toNat (T 2 e) (T 3 e) := by unfold acR; rw [if_neg c9, if_neg c10, if_neg c11, if_pos c12, if_pos y]
      have b := aMove_D R (T 1 e).toNat (T 2 e) (T 3 e)
      rw [eR, eM, eK, if_neg c10]
      refine ⟨aMove_WR W (by omega) t12.2.1 t12.2.2 y, b.1, ⟨?_, ?_, ?_⟩, by omega, bi_01 _⟩
      · rw [b.2.1]; split <;> omega
      · rw [b.2.2.1]; split <;> omega
      · rw [b.2.2.2]; omega
    · exact same (by unfold acR; rw [if_neg c9, if_neg c10, if_neg c11, if_pos c12, if_neg y]) eM c10 (by rw [eK]; exact bi_01 _)
  by_cases c13 : T 0 e = 13
  · have t13 : T 1 e = 0 ∨ T 1 e = 1 := by
      rcases t with t | t | t | t | t | t | t | t | t <;> first | omega | exact t.2
    by_cases y : R 0 1 ≤ 0
    · exact same (by unfold acR; rw [if_neg c9, if_neg c10, if_neg c11, if_neg c12, if_pos c13, if_pos y]) (by unfold acM; rw [if_neg c9, if_pos c13, if_pos y]) c10 (Or.inl (by unfold acK; rw [if_neg c9, if_neg c11, if_neg c12, if_pos c13, if_pos y]))
    · have eR : acR T R z e = aYield R (T 1 e) (rwA R z) 1 := by unfold acR; rw [if_neg c9, if_neg c10, if_neg c11, if_neg c12, if_pos c13, if_neg y]
      have eM : acM T R z e = mvd R (T 1 e) (rwA R z) 1 := by unfold acM; rw [if_neg c9, if_pos c13, if_neg y]
      have eK : acK T R z e = bi (0 < mvd R (T 1 e) (rwA R z) 1) := by unfold acK; rw [if_neg c9, if_neg c11, if_neg c12, if_pos c13, if_neg y]
      have rr := rwA_rg z y
      have b := aYield_b3 R (r := rwA R z) (n := 1) t13
      have m := mvd_rg W (l := T 1 e) (r := rwA R z) (n := 1) rr.1 (by omega)
      rw [eR, eM, eK, if_neg (show ¬ T 0 e = 10 by omega), Int.add_zero]
      exact ⟨aYield_WR W t13 rr.1 (by omega), aYield_D R t13, b, by omega, bi_01 _⟩
  · exact same (by unfold acR; rw [if_neg c9, if_neg c10, if_neg c11, if_neg c12, if_neg c13]) (by unfold acM; rw [if_neg c9, if_neg c13]) c10 (Or.inr (by unfold acK; rw [if_neg c9, if_neg c11, if_neg c12, if_neg c13]))
theorem nx_cases {T R : HP} {n : Int} {e : Nat} : nxT T R n e = n ∧ T 0 e = 18 ∨ nxT T R n e = (e : Int) + 1 ∨ (nxT T R n e = T 4 e + 1 ∧ 1519 ≤ T 0 e) := by
  unfold nxT
  by_cases a : T 0 e = 18
  · exact Or.inl ⟨if_pos a, a⟩
  · rw [if_neg a]
    by_cases b : 1519 ≤ T 0 e
    · rw [if_pos b]
      by_cases c : hlT T R e
      · exact Or.inr (Or.inl (cho_t c))
      · exact Or.inr (Or.inr ⟨cho_f c, b⟩)
    · rw [if_neg b]; exact Or.inr (Or.inl rfl)
theorem WT_op {T R : HP} {n : Int} (hT : WT T n R) {e : Nat} (he : (e : Int) < n) (o : T 0 e = 16 ∨ 1519 ≤ T 0 e) : (e : Int) < T 4 e ∧ T 4 e < n ∧ T 0 (T 4 e).toNat = 17 ∧ T 4 (T 4 e).toNat = e := by
  have t := hT.2.2.1 e he
  rcases t with t | t | t | t | t | t | t | t | t <;> first | omega | exact t.2.2.2 | exact t.2.2.2.2.2
theorem WT_en {T R : HP} {n : Int} (hT : WT T n R) {e : Nat} (he : (e : Int) < n) (o : T 0 e = 17) : 0 ≤ T 4 e ∧ T 4 e < e ∧ T 4 (T 4 e).toNat = e ∧ (T 0 (T 4 e).toNat = 16 ∨ 1519 ≤ T 0 (T 4 e).toNat) := by
  have t := hT.2.2.1 e he
  rcases t with t | t | t | t | t | t | t | t | t <;> first | omega | exact t.2
theorem PI_step {T R0 R Z : HP} {n : Int} (hT : WT T n R0) (I : PI T n R0 R Z) {e : Nat} (ee : Z 0 0 = e) (he : (e : Int) < n) (hd : Z 0 1 < 300) : PI T n R0 (acR T R (Z 0 6) e) (stZ T R Z n e) := by
  obtain ⟨i0, iW, iS, i1, i2, i3, i4, i5, i6, i7, i8⟩ := I
  have hT' : WT T n R := WT_congr hT iS.1 iS.2.1 iS.2.2
  obtain ⟨a1, a2, a3, a4, a5⟩ := acR_ok hT' iW (Z 0 6) he
  have s : ∀ i, stZ T R Z n e 0 i = (if i = 0 then nxT T R n e else if i = 1 then Z 0 1 + 1 else if i = 2 then Z 0 2 + (1 - acK T R (Z 0 6) e)
     else if i = 3 then Z 0 3 + (if T 1 e = 0 then acM T R (Z 0 6) e else 0) else if i = 4 then Z 0 4 + (if T 1 e = 0 then 0 else acM T R (Z 0 6) e)
     else if i = 5 then Z 0 5 + (if T 0 e = 10 then 1 else 0) else if i = 6 then acD T R (Z 0 6) e else Z 0 i) := fun i => rfl
  have s0 : stZ T R Z n e 0 0 = nxT T R n e := s 0
  have s1 : stZ T R Z n e 0 1 = Z 0 1 + 1 := s 1
  have s2 : stZ T R Z n e 0 2 = Z 0 2 + (1 - acK T R (Z 0 6) e) := s 2
  have s3 : stZ T R Z n e 0 3 = Z 0 3 + (if T 1 e = 0 then acM T R (Z 0 6) e else 0) := s 3
  have s4 : stZ T R Z n e 0 4 = Z 0 4 + (if T 1 e = 0 then 0 else acM T R (Z 0 6) e) := s 4
  have s5 : stZ T R Z n e 0 5 = Z 0 5 + (if T 0 e = 10 then 1 else 0) := s 5
  have s6 : stZ T R Z n e 0 6 = acD T R (Z 0 6) e := s 6
  have d6 : 0 ≤ acD T R (Z 0 6) e ∧ acD T R (Z 0 6) e ≤ 65535 := by
    unfold acD
    split
    · exact drw_rg _
    · exact i6
  have nx := nx_cases (T := T) (R := R) (n := n) (e := e)
  have n0 := hT.1
  refine ⟨?_, a1, ⟨a2.1.trans iS.1, a2.2.1.trans iS.2.1, a2.2.2.trans iS.2.2⟩, by rw [s1]; omega, by rw [s2, s1]; omega, ?_, ?_, ?_, by rw [s6]; exact d6, ⟨?_, ?_, ?_⟩, ?_⟩
  · rw [s0]
    rcases nx with ⟨q, -⟩ | q | ⟨q, p⟩
    · omega
    · omega
    · have := WT_op hT he (Or.inr p); omega
  · rw [s3, s1]; split <;> omega
  · rw [s4, s1]; split <;> omega
  · rw [s5, s1]; split <;> omega
  · rw [a3.1, s3, i7.1]; omega
  · rw [a3.2.1, s4, i7.2.1]; omega
  · rw [a3.2.2, s5, i7.2.2]; omega
  · intro o ho h1 h2
    rw [s0] at h1 h2
    by_cases z : o = e
    · subst z
      have e1 : stZ T R Z n o 1 o = (if T 4 o = (o : Int) + 1 then 0 else T 1 o - 1) := by
        show (if (1 : Nat) = 0 then _ else if (1 : Nat) = 1 ∧ o = o ∧ T 0 o = 16 then (if T 4 o = (o : Int) + 1 then 0 else T 1 o - 1) else Z 1 o) = _
        rw [if_neg (by decide), if_pos ⟨rfl, rfl, ho⟩]
      have t := hT.2.2.1 o he
      have t1 : 1 ≤ T 1 o ∧ T 1 o ≤ 99 := by
        rcases t with t | t | t | t | t | t | t | t | t <;> first | omega | exact ⟨t.2.1, t.2.2.1⟩
      rw [e1]
      split
      · exact ⟨by omega, by omega, fun _ => rfl⟩
      · exact ⟨by omega, by omega, fun q => by omega⟩
    · have e1 : stZ T R Z n e 1 o = Z 1 o := by
        show (if (1 : Nat) = 0 then _ else if (1 : Nat) = 1 ∧ o = e ∧ T 0 e = 16 then _ else Z 1 o) = Z 1 o
        rw [if_neg (by decide), if_neg (fun q => z q.2.1)]
      rw [e1]
      rcases nx with ⟨q, -⟩ | q | ⟨q, p⟩
      · rw [q] at h1 h2
        have := (WT_op hT h1 (Or.inl ho)).2.1
        omega
      · exact i8 o ho (by omega) (by omega)
      · have pe := WT_op hT he (Or.inr p)
        have po : (o : Int) < n := by omega
        have oo := WT_op hT po (Or.inl ho)
        have Ne := hT.2.2.2.2 e he (Or.inr p)
        have No := hT.2.2.2.2 o po (Or.inl ho)
        by_cases lt : o < e
        · exact i8 o ho (by omega) (by omega)
        · exfalso
          have x1 := No.2 ((T 4 e).toNat + 1) (by omega) (by omega)
          have x2 := Ne.2 o (by omega) (by omega)
          omega
theorem PI_end {T R0 R Z : HP} {n : Int} (hT : WT T n R0) (I : PI T n R0 R Z) {e : Nat} (ee : Z 0 0 = e) (he : (e : Int) < n) (h17 : T 0 e = 17) : PI T n R0 R (enZ T Z e) := by
  obtain ⟨i0, iW, iS, i1, i2, i3, i4, i5, i6, i7, i8⟩ := I
  have t := WT_en hT he h17
  have z0 : ∀ i, i ≠ 0 → enZ T Z e 0 i = Z 0 i := fun i hi => by
    unfold enZ
    rw [if_neg (fun q => hi q.2), if_neg (fun q => by omega)]
  have z00 : enZ T Z e 0 0 = cho (agT T Z e) (T 4 e + 1) ((e : Int) + 1) := if_pos ⟨rfl, rfl⟩
  have z1 : ∀ i, i ≠ (T 4 e).toNat → enZ T Z e 1 i = Z 1 i := fun i hi => by
    unfold enZ
    rw [if_neg (fun q => absurd q.1 (by decide)), if_neg (fun q => hi q.2)]
  have z11 : enZ T Z e 1 (T 4 e).toNat = cho (agT T Z e) (Z 1 (T 4 e).toNat - 1) (Z 1 (T 4 e).toNat) := by
    unfold enZ
    rw [if_neg (fun q => absurd q.1 (by decide)), if_pos ⟨rfl, rfl⟩]
  refine ⟨?_, iW, iS, by rw [z0 1 (by decide)]; exact i1, by rw [z0 1 (by decide), z0 2 (by decide)]; exact i2, by rw [z0 1 (by decide), z0 3 (by decide)]; exact i3, by rw [z0 1 (by decide), z0 4 (by decide)]; exact i4, by rw [z0 1 (by decide), z0 5 (by decide)]; exact i5, by rw [z0 6 (by decide)]; exact i6, by rw [z0 3 (by decide), z0 4 (by decide), z0 5 (by decide)]; exact i7, ?_⟩
  · rw [z00]
    by_cases a : agT T Z e
    · rw [cho_t a]; omega
    · rw [cho_f a]; omega
  · intro o ho h1 h2
    rw [z00] at h1 h2
    by_cases a : agT T Z e
    · rw [cho_t a] at h1 h2
      by_cases z : o = (T 4 e).toNat
      · have old := i8 o ho (by omega) (by rw [z, t.2.2.1]; omega)
        have a2 := a.2
        rw [← z] at a2 z11
        rw [z11, cho_t a]
        exact ⟨by omega, by omega, fun q => by have := old.2.2 q; omega⟩
      · rw [z1 o z]
        have po : (o : Int) < n := by omega
        have oo := WT_op hT po (Or.inl ho)
        have pb : (((T 4 e).toNat : Nat) : Int) < n := by omega
        have Nb := hT.2.2.2.2 (T 4 e).toNat pb t.2.2.2
        have No := hT.2.2.2.2 o po (Or.inl ho)
        by_cases lt : (e : Int) ≤ T 4 o
        · exact i8 o ho (by omega) (by omega)
        · exfalso
          have x1 := Nb.2 ((T 4 o).toNat + 1) (by omega) (by omega)
          have x2 := No.2 (T 4 e).toNat (by omega) (by omega)
          omega
    · rw [cho_f a] at h1 h2
      have same : enZ T Z e 1 o = Z 1 o := by
        by_cases z : o = (T 4 e).toNat
        · rw [z, z11, cho_f a]
        · exact z1 o z
      rw [same]
      have ne : o ≠ e := fun q => by subst q; omega
      exact i8 o ho (by omega) (by omega)
/-- turns that may still be wanted -/
def ndP (T Z : HP) : Int := 1201 + dpT T (Z 0 0).toNat - 4 * Z 0 1 - (if T 0 (Z 0 0).toNat = 17 then 0 else 1)
theorem dpT_s (T : HP) (e : Nat) : dpT T (e + 1) = dpT T e + (if T 0 e = 16 ∨ 1519 ≤ T 0 e then 1 else if T 0 e = 17 then -1 else 0) := rfl
theorem nd_ge {T R0 R Z : HP} {n : Int} (hT : WT T n R0) (I : PI T n R0 R Z) : 0 ≤ ndP T Z := by
  have d := hT.2.2.2.1 (Z 0 0).toNat (by have := I.1; omega)
  have i1 := I.2.2.2.1
  unfold ndP
  split <;> omega
theorem nd_step {T R0 R Z : HP} {n : Int} (hT : WT T n R0) (I : PI T n R0 R Z) {e : Nat} (ee : Z 0 0 = e) (he : (e : Int) < n) (h17 : ¬ T 0 e = 17) (h18 : ¬ T 0 e = 18) : ndP T (stZ T R Z n e) < ndP T Z := by
  have nx := nx_cases (T := T) (R := R) (n := n) (e := e)
  have s0 : stZ T R Z n e 0 0 = nxT T R n e := rfl
  have s1 : stZ T R Z n e 0 1 = Z 0 1 + 1 := rfl
  have d0 := dpT_s T e
  have dn := hT.2.2.2.1 e (by omega)
  unfold ndP
  rw [s0, s1, ee, Int.toNat_natCast, if_neg h17]
  have dq : dpT T (nxT T R n e).toNat ≤ dpT T e + 1 := by
    rcases nx with ⟨q, x⟩ | q | ⟨q, p⟩
    · exact absurd x h18
    · rw [q, show ((e : Int) + 1).toNat = e + 1 by omega, d0]
      (repeat' split) <;> omega
    · have pe := WT_op hT he (Or.inr p)
      have Ne := hT.2.2.2.2 e he (Or.inr p)
      rw [q, show (T 4 e + 1).toNat = (T 4 e).toNat + 1 by omega, Ne.1]; omega
  split <;> omega
theorem nd_end {T R0 R Z : HP} {n : Int} (hT : WT T n R0) (I : PI T n R0 R Z) {e : Nat} (ee : Z 0 0 = e) (he : (e : Int) < n) (h17 : T 0 e = 17) : ndP T (enZ T Z e) < ndP T Z := by
  have t := WT_en hT he h17
  have z00 : enZ T Z e 0 0 = cho (agT T Z e) (T 4 e + 1) ((e : Int) + 1) := if_pos ⟨rfl, rfl⟩
  have z01 : enZ T Z e 0 1 = Z 0 1 := by
    unfold enZ
    rw [if_neg (fun q => absurd q.2 (by decide)), if_neg (fun q => absurd q.1 (by decide))]
  have d0 := dpT_s T e
  rw [if_neg (by omega), if_pos h17] at d0
  have Nb := hT.2.2.2.2 (T 4 e).toNat (by omega) t.2.2.2
  have nb1 := Nb.1
  rw [t.2.2.1, Int.toNat_natCast] at nb1
  unfold ndP
  rw [z00, z01, ee, Int.toNat_natCast, if_pos h17]
  by_cases a : agT T Z e
  · rw [cho_t a, show (T 4 e + 1).toNat = (T 4 e).toNat + 1 by omega]
    have d1 := dpT_s T (T 4 e).toNat
    rw [if_pos t.2.2.2] at d1
    have ne : ¬ T 0 ((T 4 e).toNat + 1) = 17 := by
      intro q
      have d2 := dpT_s T ((T 4 e).toNat + 1)
      rw [if_neg (by omega), if_pos q] at d2
      by_cases y : (T 4 e).toNat + 1 = e
      · have i8 := I.2.2.2.2.2.2.2.2.2.2 (T 4 e).toNat a.1 (by omega) (by rw [t.2.2.1]; omega)
        have := i8.2.2 (by rw [t.2.2.1]; omega)
        have := a.2
        omega
      · have := Nb.2 ((T 4 e).toNat + 1 + 1) (by omega) (by rw [t.2.2.1]; omega)
        omega
    rw [if_neg ne]
    omega
  · rw [cho_f a, show ((e : Int) + 1).toNat = e + 1 by omega]
    split <;> omega
/-- the run ends -/
theorem run_ok {T R0 : HP} {n : Int} (hT : WT T n R0) : ∀ (k : Nat) (s : HP × HP), PI T n R0 s.1 s.2 → ndP T s.2 ≤ k → hlP T n (runP T n k s).2 ∧ PI T n R0 (runP T n k s).1 (runP T n k s).2
  | 0, s, I, h => by
    refine ⟨show hlP T n s.2 from ?_, I⟩
    have d := hT.2.2.2.1 (s.2 0 0).toNat (by have := I.1; omega)
    have i1 := I.2.2.2.1
    unfold ndP at h
    right
    by_cases z : T 0 (s.2 0 0).toNat = 17
    · rw [if_pos z] at h; omega
    · rw [if_neg z] at h; exact ⟨z, by omega⟩
  | k + 1, s, I, h => by
    by_cases z : hlP T n s.2
    · rw [runP_h z]; exact ⟨z, I⟩
    · rw [runP_s z]
      have i0 := I.1
      have at1 : s.2 0 0 < n := by
        by_cases y : n ≤ s.2 0 0
        · exact absurd (Or.inl y) z
        · omega
      obtain ⟨e, ee⟩ : ∃ e : Nat, s.2 0 0 = e := ⟨(s.2 0 0).toNat, by omega⟩
      have en : (s.2 0 0).toNat = e := by omega
      by_cases y : T 0 e = 17
      · have tn : tnP T n s = (s.1, enZ T s.2 e) := by unfold tnP; rw [en, if_pos y]
        rw [tn]
        exact run_ok hT k _ (PI_end hT I ee (by omega) y) (by have := nd_end hT I ee (by omega) y; show ndP T (enZ T s.2 e) ≤ k; omega)
      · have dn : s.2 0 1 < 300 := by
          by_cases x : 300 ≤ s.2 0 1
          · exact absurd (Or.inr ⟨by rw [en]; exact y, x⟩) z
          · omega
        have tn : tnP T n s = (acR T s.1 (s.2 0 6) e, stZ T s.1 s.2 n e) := by unfold tnP; rw [en, if_neg y]
        rw [tn]
        have I' := PI_step hT I ee (by omega) dn
        by_cases x : T 0 e = 18
        · have hh : hlP T n (stZ T s.1 s.2 n e) := Or.inl (by
            show n ≤ nxT T s.1 n e
            unfold nxT
            rw [if_pos x]; exact Int.le_refl _)
          rw [runP_h (s := (acR T s.1 (s.2 0 6) e, stZ T s.1 s.2 n e)) hh]
          exact ⟨hh, I'⟩
        · exact run_ok hT k _ I' (by have := nd_step hT I ee (by omega) y x; show ndP T (stZ T s.1 s.2 n e) ≤ k; omega)
