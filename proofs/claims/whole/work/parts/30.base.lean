/-! ===== small words of the contracts ===== -/
def bi (P : Prop) [Decidable P] : Int := if P then 1 else 0
theorem bi_t {P : Prop} [Decidable P] (p : P) : bi P = 1 := if_pos p
theorem bi_f {P : Prop} [Decidable P] (p : ¬ P) : bi P = 0 := if_neg p
theorem bi_01 (P : Prop) [Decidable P] : bi P = 0 ∨ bi P = 1 := by unfold bi; split; exact Or.inr rfl; exact Or.inl rfl
theorem bi_iff {P R : Prop} [Decidable P] [Decidable R] (h : P ↔ R) : bi P = bi R := by unfold bi; simp only [h]
theorem cb_bf {P : Prop} [Decidable P] : cmpb .eq (bi P) 0 = true ↔ ¬ P := by
  rw [cb_eq]; unfold bi; split <;> simp_all
theorem cb_bt {P : Prop} [Decidable P] : cmpb .ne (bi P) 0 = true ↔ P := by
  rw [cb_ne]; unfold bi; split <;> simp_all
theorem kt {Q : PQ} {h : HP} {P : Prop} [Decidable P] (k : Q (some (vi (bi P))) h) (p : P) : Q (some (vi 1)) h := by rw [bi_t p] at k; exact k
theorem kf {Q : PQ} {h : HP} {P : Prop} [Decidable P] (k : Q (some (vi (bi P))) h) (p : ¬ P) : Q (some (vi 0)) h := by rw [bi_f p] at k; exact k
theorem kb {Q : PQ} {h : HP} {P R : Prop} [Decidable P] [Decidable R] (k : Q (some (vi (bi P))) h) (p : R ↔ P) : Q (some (vi (bi R))) h := by rw [bi_iff p]; exact k
theorem kv {Q : PQ} {h : HP} {a b : Int} (k : Q (some (vi a)) h) (e : b = a) : Q (some (vi b)) h := by rw [e]; exact k
theorem kw {Q : PQ} {h : HP} {a b : Int} (k : Q (some (vj a)) h) (e : b = a) : Q (some (vj b)) h := by rw [e]; exact k
theorem isF_10 : isF 10 := Or.inl rfl
theorem isF_18 : isF 18 := Or.inr (Or.inl rfl)
theorem isT_26 : isT 26 := Or.inl rfl
theorem isT_32 : isT 32 := Or.inr (Or.inl rfl)
/-- the first of the numbers i, i+1 .. (d of them) that has the property, or -1 -/
def fnd (p : Nat → Prop) [DecidablePred p] : Nat → Nat → Int
  | 0, _ => -1
  | d + 1, i => if p i then (i : Int) else fnd p d (i + 1)
/-- a loop over i, i+1 .. (d of them) -/
def fld {σ : Type} (g : Nat → σ → σ) : Nat → Nat → σ → σ
  | 0, _, s => s
  | d + 1, i, s => fld g d (i + 1) (g i s)
def sumF (f : Nat → Int) : Nat → Nat → Int
  | 0, _ => 0
  | d + 1, i => f i + sumF f d (i + 1)
theorem fnd_s {p : Nat → Prop} [DecidablePred p] {d i : Nat} (h : ¬ p i) : fnd p (d + 1) i = fnd p d (i + 1) := if_neg h
theorem fnd_h {p : Nat → Prop} [DecidablePred p] {d i : Nat} (h : p i) : fnd p (d + 1) i = i := if_pos h
theorem fnd_congr {p q : Nat → Prop} [DecidablePred p] [DecidablePred q] : ∀ (d i : Nat), (∀ j, i ≤ j → j < i + d → (p j ↔ q j)) → fnd p d i = fnd q d i
  | 0, _, _ => rfl
  | d + 1, i, h => by
    have e := fnd_congr d (i + 1) (fun j h1 h2 => h j (by omega) (by omega))
    simp only [fnd, h i (by omega) (by omega), e]
theorem sumF_congr {f g : Nat → Int} : ∀ (d i : Nat), (∀ j, i ≤ j → j < i + d → f j = g j) → sumF f d i = sumF g d i
  | 0, _, _ => rfl
  | d + 1, i, h => by
    simp only [sumF, h i (by omega) (by omega), sumF_congr d (i + 1) (fun j h1 h2 => h j (by omega) (by omega))]
theorem fld_congr {σ : Type} {f g : Nat → σ → σ} : ∀ (d i : Nat) (s : σ), (∀ j s, i ≤ j → j < i + d → f j s = g j s) → fld f d i s = fld g d i s
  | 0, _, _, _ => rfl
  | d + 1, i, s, h => by
    simp only [fld, h i s (by omega) (by omega)]
    exact fld_congr d (i + 1) _ (fun j s h1 h2 => h j s (by omega) (by omega))
theorem sumF_rng {f : Nat → Int} {a b : Int} : ∀ (d i : Nat), (∀ j, i ≤ j → j < i + d → a ≤ f j ∧ f j ≤ b) → a * d ≤ sumF f d i ∧ sumF f d i ≤ b * d
  | 0, _, _ => by simp [sumF]
  | d + 1, i, h => by
    have h1 := h i (by omega) (by omega)
    have h2 := sumF_rng d (i + 1) (fun j h1 h2 => h j (by omega) (by omega))
    have e1 : a * ((d + 1 : Nat) : Int) = a * d + a := by rw [Int.natCast_add, Int.mul_add]; simp
    have e2 : b * ((d + 1 : Nat) : Int) = b * d + b := by rw [Int.natCast_add, Int.mul_add]; simp
    simp only [sumF]
    omega
/-- the loop rule -/
theorem lp {σ : Type} {b : Bool} {mi pc : Nat} {Q : PQ} (L : Nat → σ → List AV) (H : Nat → σ → HP) (g : Nat → σ → σ) (I : Nat → σ → Prop) (n : Nat)
    (step : ∀ i s, i < n → I i s → (I (i + 1) (g i s) → Wp b mi pc (L (i + 1) (g i s)) [] (H (i + 1) (g i s)) Q) → Wp b mi pc (L i s) [] (H i s) Q) :
    ∀ d i s, i + d = n → I i s → (I n (fld g d i s) → Wp b mi pc (L n (fld g d i s)) [] (H n (fld g d i s)) Q) → Wp b mi pc (L i s) [] (H i s) Q
  | 0, i, s, e, hi, k => by
    have : i = n := by omega
    subst this
    exact k hi
  | d + 1, i, s, e, hi, k => step i s (by omega) hi (fun h1 => lp L H g I n step d (i + 1) (g i s) (by omega) h1 k)
/-! ===== a ROOM as numbers: R 0 = wide, deep, bend, count, yielded 0, yielded 1, nights; R 1 the LINE; R 2 .. R 7 of things: column, row, worth to 0, to 1, leg, big ===== -/
def rmC (h : HP) (f : Nat) : HP := fun k i =>
  if k = 0 then (if i < 4 then h f i else if i = 4 then h (f + 1) 0 else if i = 5 then h (f + 1) 1 else if i = 6 then h f 4 else 0)
  else if k = 1 then (if (i : Int) < h f 1 then h (f + 2) i else 0)
  else if (i : Int) < h f 3 then
    (if k = 2 then h (f + 4) i else if k = 3 then h (f + 5) i else if k = 4 then h (f + 6) (2 * i) else if k = 5 then h (f + 6) (2 * i + 1) else if k = 6 then h (f + 7) i else if k = 7 then o_and (o_shr (h f 12) i) 1 else 0)
  else 0
def rmM (h : HP) (s : Nat) : HP := fun k i =>
  if k = 0 then (if i < 2 then h 104 (s + i) else if i = 2 then h 104 (s + 3) else if i = 3 then h 104 (s + 2) else if i < 7 then h 104 (s + i) else 0)
  else if k = 1 then (if (i : Int) < h 104 (s + 1) then h 104 (s + 8 + i) else 0)
  else if (i : Int) < h 104 (s + 2) then (if k < 8 then h 104 (s + 15 + 6 * i + (k - 2)) else 0) else 0
/-- a ROOM that is one -/
def WR (R : HP) : Prop :=
  (0 ≤ R 0 0 ∧ R 0 0 ≤ 9 ∧ 0 ≤ R 0 1 ∧ R 0 1 ≤ 7 ∧ 0 ≤ R 0 2 ∧ R 0 2 ≤ 9 ∧ 0 ≤ R 0 3 ∧ R 0 3 ≤ 10) ∧
  (∀ r : Nat, (r : Int) < R 0 1 → 0 ≤ R 1 r ∧ R 1 r ≤ R 0 0) ∧
  (∀ i : Nat, (i : Int) < R 0 3 → (0 ≤ R 2 i ∧ R 2 i < R 0 0) ∧ (0 ≤ R 3 i ∧ R 3 i < R 0 1) ∧ (0 ≤ R 4 i ∧ R 4 i ≤ 99) ∧ (0 ≤ R 5 i ∧ R 5 i ≤ 99) ∧ (-1 ≤ R 6 i ∧ R 6 i ≤ 1) ∧ (R 7 i = 0 ∨ R 7 i = 1)) ∧
  (∀ i j : Nat, i < j → (j : Int) < R 0 3 → ¬ (R 2 i = R 2 j ∧ R 3 i = R 3 j)) ∧ (R 0 1 = 0 → R 0 0 = 0)
def rHo (R : HP) (t : Nat) : Int := if R 6 t < 0 then (if R 1 (R 3 t).toNat ≤ R 2 t then 1 else 0) else R 6 t
def rIn (R : HP) (l : Int) (r : Nat) : Int := if l = 0 then R 1 r else R 0 0 - R 1 r
def rWo (R : HP) (l : Int) (t : Nat) : Int := if l = 0 then R 4 t else R 5 t
def rBy (R : HP) (c : Int) (r : Nat) : Int := if R 1 r ≤ c then 1 else 0
def rOn (R : HP) (c r : Int) : Int := fnd (fun i => R 2 i = c ∧ R 3 i = r) (R 0 3).toNat 0
def rLand (R : HP) (c r : Int) : Int := if 0 ≤ rOn R c r then rHo R (rOn R c r).toNat else rBy R c r.toNat
def rVal (R : HP) (l m : Int) : Int := sumF (fun i => if rHo R i = l then rWo R m i else 0) (R 0 3).toNat 0
def rBend (R : HP) (r : Nat) : Int := ((R 1 r - R 1 (r - 1)).natAbs : Int)
theorem cR_0 (h : HP) (f : Nat) : rmC h f 0 0 = h f 0 ∧ rmC h f 0 1 = h f 1 ∧ rmC h f 0 2 = h f 2 ∧ rmC h f 0 3 = h f 3 ∧ rmC h f 0 4 = h (f + 1) 0 ∧ rmC h f 0 5 = h (f + 1) 1 ∧ rmC h f 0 6 = h f 4 := ⟨rfl, rfl, rfl, rfl, rfl, rfl, rfl⟩
theorem cR_1 {h : HP} {f r : Nat} (hr : (r : Int) < h f 1) : rmC h f 1 r = h (f + 2) r := by simp [rmC, hr]
theorem cR_t {h : HP} {f i : Nat} (hi : (i : Int) < h f 3) : rmC h f 2 i = h (f + 4) i ∧ rmC h f 3 i = h (f + 5) i ∧ rmC h f 4 i = h (f + 6) (2 * i) ∧ rmC h f 5 i = h (f + 6) (2 * i + 1) ∧ rmC h f 6 i = h (f + 7) i ∧ rmC h f 7 i = o_and (o_shr (h f 12) i) 1 := by simp [rmC, hi]
theorem WC_0 {h : HP} {f : Nat} (W : WR (rmC h f)) : 0 ≤ h f 0 ∧ h f 0 ≤ 9 ∧ 0 ≤ h f 1 ∧ h f 1 ≤ 7 ∧ 0 ≤ h f 2 ∧ h f 2 ≤ 9 ∧ 0 ≤ h f 3 ∧ h f 3 ≤ 10 := W.1
theorem WC_1 {h : HP} {f : Nat} (W : WR (rmC h f)) {r : Int} (h0 : 0 ≤ r) (h1 : r < h f 1) : 0 ≤ h (f + 2) r.toNat ∧ h (f + 2) r.toNat ≤ h f 0 ∧ rmC h f 1 r.toNat = h (f + 2) r.toNat := by
  have e := cR_1 (h := h) (f := f) (r := r.toNat) (by omega)
  have w := W.2.1 r.toNat (by show (r.toNat : Int) < h f 1; omega)
  rw [e] at w
  exact ⟨w.1, w.2, e⟩
theorem WC_t {h : HP} {f : Nat} (W : WR (rmC h f)) {t : Int} (h0 : 0 ≤ t) (h1 : t < h f 3) : (0 ≤ h (f + 4) t.toNat ∧ h (f + 4) t.toNat < h f 0) ∧ (0 ≤ h (f + 5) t.toNat ∧ h (f + 5) t.toNat < h f 1) ∧ (0 ≤ h (f + 6) (2 * t.toNat) ∧ h (f + 6) (2 * t.toNat) ≤ 99) ∧ (0 ≤ h (f + 6) (2 * t.toNat + 1) ∧ h (f + 6) (2 * t.toNat + 1) ≤ 99) ∧ (-1 ≤ h (f + 7) t.toNat ∧ h (f + 7) t.toNat ≤ 1) := by
  obtain ⟨e1, e2, e3, e4, e5, -⟩ := cR_t (h := h) (f := f) (i := t.toNat) (by omega)
  obtain ⟨w1, w2, w3, w4, w5, -⟩ := W.2.2.1 t.toNat (by show (t.toNat : Int) < h f 3; omega)
  rw [e1] at w1; rw [e2] at w2; rw [e3] at w3; rw [e4] at w4; rw [e5] at w5
  exact ⟨w1, w2, w3, w4, w5⟩
theorem rHo_C {h : HP} {f : Nat} (W : WR (rmC h f)) {t : Int} (h0 : 0 ≤ t) (h1 : t < h f 3) : rHo (rmC h f) t.toNat = if h (f + 7) t.toNat < 0 then (if h (f + 2) (h (f + 5) t.toNat).toNat ≤ h (f + 4) t.toNat then 1 else 0) else h (f + 7) t.toNat := by
  obtain ⟨e1, e2, e3, e4, e5, -⟩ := cR_t (h := h) (f := f) (i := t.toNat) (by omega)
  obtain ⟨w1, w2, w3, w4, w5⟩ := WC_t W h0 h1
  have e6 := cR_1 (h := h) (f := f) (r := (h (f + 5) t.toNat).toNat) (by omega)
  unfold rHo
  rw [e5, e2, e6, e1]
theorem rHo_01 {R : HP} (W : WR R) {t : Nat} (ht : (t : Int) < R 0 3) : rHo R t = 0 ∨ rHo R t = 1 := by
  obtain ⟨-, -, -, -, w5, -⟩ := W.2.2.1 t ht
  unfold rHo
  split
  · split
    · exact Or.inr rfl
    · exact Or.inl rfl
  · omega
theorem rWo_rg {R : HP} (W : WR R) {t : Nat} (ht : (t : Int) < R 0 3) (l : Int) : 0 ≤ rWo R l t ∧ rWo R l t ≤ 99 := by
  obtain ⟨-, -, w3, w4, -⟩ := W.2.2.1 t ht
  unfold rWo
  split
  · exact w3
  · exact w4
theorem rWo_C {h : HP} {f : Nat} {l t : Int} (hl : l = 0 ∨ l = 1) (h0 : 0 ≤ t) (h1 : t < h f 3) : rWo (rmC h f) l t.toNat = h (f + 6) (t * 2 + l).toNat := by
  obtain ⟨-, -, e3, e4, -⟩ := cR_t (h := h) (f := f) (i := t.toNat) (by omega)
  unfold rWo
  rcases hl with rfl | rfl
  · rw [if_pos rfl, e3]; congr 1; omega
  · rw [if_neg (by decide), e4]; congr 1; omega
theorem g_Ma_min_0 {Q : PQ} {h : HP} {x0 : Int} {x1 : Int} 
    (k1 : x1 < x0 → Q (some (vi x1)) h)
    (k2 : ¬ x1 < x0 → Q (some (vi x0)) h) :
    Wp true i_Ma_min 0 [vi x0, vi x1] [] h Q := by
  refine r_iload_n (v := x0) f_377_0 rfl ?_
  refine r_iload_n (v := x1) f_377_1 rfl ?_
  refine r_br2 (t := 9) f_377_2 rfl cb_gt (fun c1 => ?_) (fun c1 => ?_)
  · refine r_iload_n (v := x1) f_377_9 rfl ?_
    exact r_reti f_377_10 rfl (k1 c1)
  · refine r_iload_n (v := x0) f_377_5 rfl ?_
    refine r_goto (t := 10) f_377_6 rfl ?_
    exact r_reti f_377_10 rfl (k2 c1)

theorem c_Ma_min {Q : PQ} {h : HP} {x0 : Int} {x1 : Int} (k : Q (some (vi (min x0 x1))) h) :
    Wp true i_Ma_min 0 [vi x0, vi x1] [] h Q := by
  refine g_Ma_min_0 ?_ ?_
  · intros; first | exact k | (refine kv k ?_; omega) | (refine kv k ?_; simp only [*, if_true, if_false]; try omega) | (refine kv k ?_; split <;> omega)
  · intros; first | exact k | (refine kv k ?_; omega) | (refine kv k ?_; simp only [*, if_true, if_false]; try omega) | (refine kv k ?_; split <;> omega)

theorem g_Ma_max_0 {Q : PQ} {h : HP} {x0 : Int} {x1 : Int} 
    (k1 : x0 < x1 → Q (some (vi x1)) h)
    (k2 : ¬ x0 < x1 → Q (some (vi x0)) h) :
    Wp true i_Ma_max 0 [vi x0, vi x1] [] h Q := by
  refine r_iload_n (v := x0) f_376_0 rfl ?_
  refine r_iload_n (v := x1) f_376_1 rfl ?_
  refine r_br2 (t := 9) f_376_2 rfl cb_lt (fun c1 => ?_) (fun c1 => ?_)
  · refine r_iload_n (v := x1) f_376_9 rfl ?_
    exact r_reti f_376_10 rfl (k1 c1)
  · refine r_iload_n (v := x0) f_376_5 rfl ?_
    refine r_goto (t := 10) f_376_6 rfl ?_
    exact r_reti f_376_10 rfl (k2 c1)

theorem c_Ma_max {Q : PQ} {h : HP} {x0 : Int} {x1 : Int} (k : Q (some (vi (max x0 x1))) h) :
    Wp true i_Ma_max 0 [vi x0, vi x1] [] h Q := by
  refine g_Ma_max_0 ?_ ?_
  · intros; first | exact k | (refine kv k ?_; omega) | (refine kv k ?_; simp only [*, if_true, if_false]; try omega) | (refine kv k ?_; split <;> omega)
  · intros; first | exact k | (refine kv k ?_; omega) | (refine kv k ?_; simp only [*, if_true, if_false]; try omega) | (refine kv k ?_; split <;> omega)

theorem g_Ma_abs_0 {Q : PQ} {h : HP} {x0 : Int} 
    (k1 : 0 ≤ x0 → Q (some (vi x0)) h)
    (o2 : ¬ 0 ≤ x0 → -2147483648 ≤ -x0 ∧ -x0 ≤ 2147483647)
    (k3 : ¬ 0 ≤ x0 → Q (some (vi (-x0))) h) :
    Wp true i_Ma_abs 0 [vi x0] [] h Q := by
  refine r_iload_n (v := x0) f_375_0 rfl ?_
  refine r_br (t := 9) f_375_1 rfl cb_ge (fun c1 => ?_) (fun c1 => ?_)
  · refine r_iload_n (v := x0) f_375_9 rfl ?_
    exact r_reti f_375_10 rfl (k1 c1)
  · refine r_iload_n (v := x0) f_375_4 rfl ?_
    refine r_ineg (u := -x0) f_375_5 rfl (o2 c1) ?_
    refine r_goto (t := 10) f_375_6 rfl ?_
    exact r_reti f_375_10 rfl (k3 c1)

theorem c_Ma_abs {Q : PQ} {h : HP} {x0 : Int} (o1 : -2147483647 ≤ x0 ∧ x0 ≤ 2147483647) (k : Q (some (vi (x0.natAbs : Int))) h) :
    Wp true i_Ma_abs 0 [vi x0] [] h Q := by
  refine g_Ma_abs_0 ?_ ?_ ?_
  · intros; first | exact k | (refine kv k ?_; omega) | (refine kv k ?_; simp only [*, if_true, if_false]; try omega) | (refine kv k ?_; split <;> omega)
  · intros; first | omega | exact ⟨by omega, by omega⟩
  · intros; first | exact k | (refine kv k ?_; omega) | (refine kv k ?_; simp only [*, if_true, if_false]; try omega) | (refine kv k ?_; split <;> omega)

theorem g_Fl_hasRow_0 {Q : PQ} {h : HP} {x1 : Int} {f0 : Nat} (h_f0 : isF f0)
    (k1 : x1 < 0 → Q (some (vi 0)) h)
    (k2 : ¬ x1 < 0 → h f0 1 ≤ x1 → Q (some (vi 0)) h)
    (k3 : ¬ x1 < 0 → ¬ h f0 1 ≤ x1 → Q (some (vi 1)) h) :
    Wp true i_Fl_hasRow 0 [vr f0, vi x1] [] h Q := by
  refine r_iload_n (v := x1) f_30_0 rfl ?_
  refine r_br (t := 16) f_30_1 rfl cb_lt (fun c1 => ?_) (fun c1 => ?_)
  · refine r_iconst f_30_16 (by decide) ?_
    exact r_retz f_30_17 rfl (by decide) (k1 c1)
  · refine r_iload_n (v := x1) f_30_4 rfl ?_
    refine r_aload_n (v := f0) f_30_5 rfl (F_n h_f0) ?_
    refine r_geti (v := h f0 1) f_30_6 (F_k h_f0) (by decide) rfl ?_
    refine r_br2 (t := 16) f_30_9 rfl cb_ge (fun c2 => ?_) (fun c2 => ?_)
    · refine r_iconst f_30_16 (by decide) ?_
      exact r_retz f_30_17 rfl (by decide) (k2 c1 c2)
    · refine r_iconst f_30_12 (by decide) ?_
      refine r_goto (t := 17) f_30_13 rfl ?_
      exact r_retz f_30_17 rfl (by decide) (k3 c1 c2)

theorem c_Fl_hasRow {Q : PQ} {h : HP} {x1 : Int} {f0 : Nat} (h_f0 : isF f0) (k : Q (some (vi (bi (0 ≤ x1 ∧ x1 < h f0 1)))) h) :
    Wp true i_Fl_hasRow 0 [vr f0, vi x1] [] h Q := by
  refine g_Fl_hasRow_0 h_f0 ?_ ?_ ?_
  · intros; exact kf k (by omega)
  · intros; exact kf k (by omega)
  · intros; exact kt k (by omega)

theorem g_Fl_hasBoard_0 {Q : PQ} {h : HP} {x1 : Int} {x2 : Int} {f0 : Nat} (h_f0 : isF f0)
    (k1 : x1 < 0 → Q (some (vi 0)) h)
    (k2 : ¬ x1 < 0 → h f0 0 ≤ x1 → Q (some (vi 0)) h)
    (k3 : ¬ x1 < 0 → ¬ h f0 0 ≤ x1 → ¬ (0 ≤ x2 ∧ x2 < h f0 1) → Q (some (vi 0)) h)
    (k4 : ¬ x1 < 0 → ¬ h f0 0 ≤ x1 → (0 ≤ x2 ∧ x2 < h f0 1) → Q (some (vi 1)) h) :
    Wp true i_Fl_hasBoard 0 [vr f0, vi x1, vi x2] [] h Q := by
  refine r_iload_n (v := x1) f_31_0 rfl ?_
  refine r_br (t := 24) f_31_1 rfl cb_lt (fun c1 => ?_) (fun c1 => ?_)
  · refine r_iconst f_31_24 (by decide) ?_
    exact r_retz f_31_25 rfl (by decide) (k1 c1)
  · refine r_iload_n (v := x1) f_31_4 rfl ?_
    refine r_aload_n (v := f0) f_31_5 rfl (F_n h_f0) ?_
    refine r_geti (v := h f0 0) f_31_6 (F_k h_f0) (by decide) rfl ?_
    refine r_br2 (t := 24) f_31_9 rfl cb_ge (fun c2 => ?_) (fun c2 => ?_)
    · refine r_iconst f_31_24 (by decide) ?_
      exact r_retz f_31_25 rfl (by decide) (k2 c1 c2)
    · refine r_aload_n (v := f0) f_31_12 rfl (F_n h_f0) ?_
      refine r_iload_n (v := x2) f_31_13 rfl ?_
      refine r_callv (as := [vr f0, vi x2]) (st' := []) (ls0 := [vr f0, vi x2]) f_31_14 (by decide) rfl rfl (Nat.le_of_ble_eq_true rfl) (Nat.le_of_ble_eq_true rfl) ⟨_, _, rfl, (F_k h_f0)⟩ rfl ?_
      refine c_Fl_hasRow h_f0 ?_
      show Wp true i_Fl_hasBoard 17 [vr f0, vi x1, vi x2] [vi (bi (0 ≤ x2 ∧ x2 < h f0 1))] h Q
      refine r_br (t := 24) f_31_17 rfl cb_bf (fun c3 => ?_) (fun c3 => ?_)
      · refine r_iconst f_31_24 (by decide) ?_
        exact r_retz f_31_25 rfl (by decide) (k3 c1 c2 c3)
      · have c3 := Decidable.not_not.mp c3
        refine r_iconst f_31_20 (by decide) ?_
        refine r_goto (t := 25) f_31_21 rfl ?_
        exact r_retz f_31_25 rfl (by decide) (k4 c1 c2 c3)

theorem c_Fl_hasBoard {Q : PQ} {h : HP} {x1 : Int} {x2 : Int} {f0 : Nat} (h_f0 : isF f0) (k : Q (some (vi (bi (0 ≤ x1 ∧ x1 < h f0 0 ∧ 0 ≤ x2 ∧ x2 < h f0 1)))) h) :
    Wp true i_Fl_hasBoard 0 [vr f0, vi x1, vi x2] [] h Q := by
  refine g_Fl_hasBoard_0 h_f0 ?_ ?_ ?_ ?_
  · intros; exact kf k (by omega)
  · intros; exact kf k (by omega)
  · intros; exact kf k (by omega)
  · intros; exact kt k (by omega)

theorem g_Fl_hasThing_0 {Q : PQ} {h : HP} {x1 : Int} {f0 : Nat} (h_f0 : isF f0)
    (k1 : x1 < 0 → Q (some (vi 0)) h)
    (k2 : ¬ x1 < 0 → h f0 3 ≤ x1 → Q (some (vi 0)) h)
    (k3 : ¬ x1 < 0 → ¬ h f0 3 ≤ x1 → Q (some (vi 1)) h) :
    Wp true i_Fl_hasThing 0 [vr f0, vi x1] [] h Q := by
  refine r_iload_n (v := x1) f_32_0 rfl ?_
  refine r_br (t := 16) f_32_1 rfl cb_lt (fun c1 => ?_) (fun c1 => ?_)
  · refine r_iconst f_32_16 (by decide) ?_
    exact r_retz f_32_17 rfl (by decide) (k1 c1)
  · refine r_iload_n (v := x1) f_32_4 rfl ?_
    refine r_aload_n (v := f0) f_32_5 rfl (F_n h_f0) ?_
    refine r_geti (v := h f0 3) f_32_6 (F_k h_f0) (by decide) rfl ?_
    refine r_br2 (t := 16) f_32_9 rfl cb_ge (fun c2 => ?_) (fun c2 => ?_)
    · refine r_iconst f_32_16 (by decide) ?_
      exact r_retz f_32_17 rfl (by decide) (k2 c1 c2)
    · refine r_iconst f_32_12 (by decide) ?_
      refine r_goto (t := 17) f_32_13 rfl ?_
      exact r_retz f_32_17 rfl (by decide) (k3 c1 c2)

theorem c_Fl_hasThing {Q : PQ} {h : HP} {x1 : Int} {f0 : Nat} (h_f0 : isF f0) (k : Q (some (vi (bi (0 ≤ x1 ∧ x1 < h f0 3)))) h) :
    Wp true i_Fl_hasThing 0 [vr f0, vi x1] [] h Q := by
  refine g_Fl_hasThing_0 h_f0 ?_ ?_ ?_
  · intros; exact kf k (by omega)
  · intros; exact kf k (by omega)
  · intros; exact kt k (by omega)

theorem g_Fl_isSet_0 {Q : PQ} {h : HP} {x1 : Int} {f0 : Nat} (h_f0 : isF f0)
    (k1 : x1 < 0 → Q (some (vi 0)) h)
    (k2 : ¬ x1 < 0 → o_shl 1 (h f0 3) ≤ x1 → Q (some (vi 0)) h)
    (k3 : ¬ x1 < 0 → ¬ o_shl 1 (h f0 3) ≤ x1 → Q (some (vi 1)) h) :
    Wp true i_Fl_isSet 0 [vr f0, vi x1] [] h Q := by
  refine r_iload_n (v := x1) f_33_0 rfl ?_
  refine r_br (t := 18) f_33_1 rfl cb_lt (fun c1 => ?_) (fun c1 => ?_)
  · refine r_iconst f_33_18 (by decide) ?_
    exact r_retz f_33_19 rfl (by decide) (k1 c1)
  · refine r_iload_n (v := x1) f_33_4 rfl ?_
    refine r_iconst f_33_5 (by decide) ?_
    refine r_aload_n (v := f0) f_33_6 rfl (F_n h_f0) ?_
    refine r_geti (v := h f0 3) f_33_7 (F_k h_f0) (by decide) rfl ?_
    refine r_ishl f_33_10 ?_
    refine r_br2 (t := 18) f_33_11 rfl cb_ge (fun c2 => ?_) (fun c2 => ?_)
    · refine r_iconst f_33_18 (by decide) ?_
      exact r_retz f_33_19 rfl (by decide) (k2 c1 c2)
    · refine r_iconst f_33_14 (by decide) ?_
      refine r_goto (t := 19) f_33_15 rfl ?_
      exact r_retz f_33_19 rfl (by decide) (k3 c1 c2)

theorem c_Fl_isSet {Q : PQ} {h : HP} {x1 : Int} {f0 : Nat} (h_f0 : isF f0) (k : Q (some (vi (bi (0 ≤ x1 ∧ x1 < o_shl 1 (h f0 3))))) h) :
    Wp true i_Fl_isSet 0 [vr f0, vi x1] [] h Q := by
  refine g_Fl_isSet_0 h_f0 ?_ ?_ ?_
  · intros; exact kf k (by omega)
  · intros; exact kf k (by omega)
  · intros; exact kt k (by omega)

theorem g_Fl_isBig_0 {Q : PQ} {h : HP} {x1 : Int} {f0 : Nat} (h_f0 : isF f0)
    (k1 : ¬ o_and (o_shr (h f0 12) x1) 1 = 1 → Q (some (vi 0)) h)
    (k2 : o_and (o_shr (h f0 12) x1) 1 = 1 → Q (some (vi 1)) h) :
    Wp true i_Fl_isBig 0 [vr f0, vi x1] [] h Q := by
  refine r_aload_n (v := f0) f_34_0 rfl (F_n h_f0) ?_
  refine r_geti (v := h f0 12) f_34_1 (F_k h_f0) (by decide) rfl ?_
  refine r_iload_n (v := x1) f_34_4 rfl ?_
  refine r_ishr f_34_5 ?_
  refine r_iconst f_34_6 (by decide) ?_
  refine r_iand f_34_7 ?_
  refine r_iconst f_34_8 (by decide) ?_
  refine r_br2 (t := 16) f_34_9 rfl cb_ne (fun c1 => ?_) (fun c1 => ?_)
  · refine r_iconst f_34_16 (by decide) ?_
    exact r_retz f_34_17 rfl (by decide) (k1 c1)
  · have c1 := Decidable.not_not.mp c1
    refine r_iconst f_34_12 (by decide) ?_
    refine r_goto (t := 17) f_34_13 rfl ?_
    exact r_retz f_34_17 rfl (by decide) (k2 c1)

theorem c_Fl_isBig {Q : PQ} {h : HP} {x1 : Int} {f0 : Nat} (h_f0 : isF f0) (k : Q (some (vi (bi (o_and (o_shr (h f0 12) x1) 1 = 1)))) h) :
    Wp true i_Fl_isBig 0 [vr f0, vi x1] [] h Q := by
  refine g_Fl_isBig_0 h_f0 ?_ ?_
  · intros; exact kf k (by omega)
  · intros; exact kt k (by omega)

theorem g_Fl_worthTo_0 {Q : PQ} {h : HP} {x1 : Int} {x2 : Int} {f0 : Nat} (h_f0 : isF f0)
    (o1 : -2147483648 ≤ x2 * 2 ∧ x2 * 2 ≤ 2147483647)
    (o2 : -2147483648 ≤ (x2 * 2) + x1 ∧ (x2 * 2) + x1 ≤ 2147483647)
    (o3 : 0 ≤ (x2 * 2) + x1 ∧ (x2 * 2) + x1 < 20)
    (k4 : Q (some (vi (h (f0 + 6) ((x2 * 2) + x1).toNat))) h) :
    Wp true i_Fl_worthTo 0 [vr f0, vi x1, vi x2] [] h Q := by
  refine r_aload_n (v := f0) f_37_0 rfl (F_n h_f0) ?_
  refine r_getr (q := (f0 + 6)) f_37_1 (F_k h_f0) (by decide) (Or.inl rfl) rfl ?_
  refine r_iload_n (v := x2) f_37_4 rfl ?_
  refine r_iconst f_37_5 (by decide) ?_
  refine r_imul (u := x2 * 2) f_37_6 rfl o1 ?_
  refine r_iload_n (v := x1) f_37_7 rfl ?_
  refine r_iadd (u := (x2 * 2) + x1) f_37_8 rfl o2 ?_
  refine r_iaload (n := 20) (v := h (f0 + 6) ((x2 * 2) + x1).toNat) f_37_9 (F_6 h_f0) o3 rfl ?_
  exact r_reti f_37_10 rfl k4

theorem c_Fl_worthTo {Q : PQ} {h : HP} {x1 : Int} {x2 : Int} {f0 : Nat} (h_f0 : isF f0) (o1 : WR (rmC h f0)) (o2 : x1 = 0 ∨ x1 = 1) (o3 : 0 ≤ x2 ∧ x2 < h f0 3) (k : Q (some (vi (rWo (rmC h f0) x1 x2.toNat))) h) :
    Wp true i_Fl_worthTo 0 [vr f0, vi x1, vi x2] [] h Q := by
  have w := WC_0 o1
  simp only [rWo_C o2 o3.1 o3.2] at k
  refine g_Fl_worthTo_0 h_f0 ?_ ?_ ?_ ?_
  · intros; first | omega | exact ⟨by omega, by omega⟩
  · intros; first | omega | exact ⟨by omega, by omega⟩
  · intros; first | omega | exact ⟨by omega, by omega⟩
  · intros; first | exact k | (refine kv k ?_; omega) | (refine kv k ?_; simp only [*, if_true, if_false]; try omega) | (refine kv k ?_; split <;> omega)

theorem g_Fl_landByLine_0 {Q : PQ} {h : HP} {x1 : Int} {x2 : Int} {f0 : Nat} (h_f0 : isF f0)
    (o1 : 0 ≤ x2 ∧ x2 < 7)
    (k2 : h (f0 + 2) x2.toNat ≤ x1 → Q (some (vi 1)) h)
    (k3 : ¬ h (f0 + 2) x2.toNat ≤ x1 → Q (some (vi 0)) h) :
    Wp true i_Fl_landByLine 0 [vr f0, vi x1, vi x2] [] h Q := by
  refine r_iload_n (v := x1) f_38_0 rfl ?_
  refine r_aload_n (v := f0) f_38_1 rfl (F_n h_f0) ?_
  refine r_getr (q := (f0 + 2)) f_38_2 (F_k h_f0) (by decide) (Or.inl rfl) rfl ?_
  refine r_iload_n (v := x2) f_38_5 rfl ?_
  refine r_iaload (n := 7) (v := h (f0 + 2) x2.toNat) f_38_6 (F_2 h_f0) o1 rfl ?_
  refine r_br2 (t := 14) f_38_7 rfl cb_ge (fun c1 => ?_) (fun c1 => ?_)
  · refine r_iconst f_38_14 (by decide) ?_
    exact r_reti f_38_15 rfl (k2 c1)
  · refine r_iconst f_38_10 (by decide) ?_
    refine r_goto (t := 15) f_38_11 rfl ?_
    exact r_reti f_38_15 rfl (k3 c1)

theorem c_Fl_landByLine {Q : PQ} {h : HP} {x1 : Int} {x2 : Int} {f0 : Nat} (h_f0 : isF f0) (o1 : WR (rmC h f0)) (o2 : 0 ≤ x2 ∧ x2 < h f0 1) (k : Q (some (vi (rBy (rmC h f0) x1 x2.toNat))) h) :
    Wp true i_Fl_landByLine 0 [vr f0, vi x1, vi x2] [] h Q := by
  have w := WC_0 o1
  have w1 := WC_1 o1 o2.1 o2.2
  simp only [rBy, w1.2.2] at k
  refine g_Fl_landByLine_0 h_f0 ?_ ?_ ?_
  · intros; first | omega | exact ⟨by omega, by omega⟩
  · intros; first | exact k | (refine kv k ?_; omega) | (refine kv k ?_; simp only [*, if_true, if_false]; try omega) | (refine kv k ?_; split <;> omega)
  · intros; first | exact k | (refine kv k ?_; omega) | (refine kv k ?_; simp only [*, if_true, if_false]; try omega) | (refine kv k ?_; split <;> omega)

theorem g_Fl_holderOf_0 {Q : PQ} {h : HP} {x1 : Int} {f0 : Nat} (h_f0 : isF f0)
    (o1 : 0 ≤ x1 ∧ x1 < 10)
    (o2 : h (f0 + 7) x1.toNat < 0 → 0 ≤ h (f0 + 5) x1.toNat ∧ h (f0 + 5) x1.toNat < 7)
    (k3 : h (f0 + 7) x1.toNat < 0 → h (f0 + 2) (h (f0 + 5) x1.toNat).toNat ≤ h (f0 + 4) x1.toNat → Q (some (vi 1)) h)
    (k4 : h (f0 + 7) x1.toNat < 0 → ¬ h (f0 + 2) (h (f0 + 5) x1.toNat).toNat ≤ h (f0 + 4) x1.toNat → Q (some (vi 0)) h)
    (k5 : ¬ h (f0 + 7) x1.toNat < 0 → Q (some (vi (h (f0 + 7) x1.toNat))) h) :
    Wp true i_Fl_holderOf 0 [vr f0, vi x1] [] h Q := by
  refine r_aload_n (v := f0) f_40_0 rfl (F_n h_f0) ?_
  refine r_getr (q := (f0 + 7)) f_40_1 (F_k h_f0) (by decide) (Or.inl rfl) rfl ?_
  refine r_iload_n (v := x1) f_40_4 rfl ?_
  refine r_iaload (n := 10) (v := h (f0 + 7) x1.toNat) f_40_5 (F_7 h_f0) o1 rfl ?_
  refine r_br (t := 16) f_40_6 rfl cb_lt (fun c1 => ?_) (fun c1 => ?_)
  · refine r_aload_n (v := f0) f_40_16 rfl (F_n h_f0) ?_
    refine r_getr (q := (f0 + 4)) f_40_17 (F_k h_f0) (by decide) (Or.inl rfl) rfl ?_
    refine r_iload_n (v := x1) f_40_20 rfl ?_
    refine r_iaload (n := 10) (v := h (f0 + 4) x1.toNat) f_40_21 (F_4 h_f0) o1 rfl ?_
    refine r_aload_n (v := f0) f_40_22 rfl (F_n h_f0) ?_
    refine r_getr (q := (f0 + 2)) f_40_23 (F_k h_f0) (by decide) (Or.inl rfl) rfl ?_
    refine r_aload_n (v := f0) f_40_26 rfl (F_n h_f0) ?_
    refine r_getr (q := (f0 + 5)) f_40_27 (F_k h_f0) (by decide) (Or.inl rfl) rfl ?_
    refine r_iload_n (v := x1) f_40_30 rfl ?_
    refine r_iaload (n := 10) (v := h (f0 + 5) x1.toNat) f_40_31 (F_5 h_f0) o1 rfl ?_
    refine r_iaload (n := 7) (v := h (f0 + 2) (h (f0 + 5) x1.toNat).toNat) f_40_32 (F_2 h_f0) (o2 c1) rfl ?_
    refine r_br2 (t := 40) f_40_33 rfl cb_ge (fun c2 => ?_) (fun c2 => ?_)
    · refine r_iconst f_40_40 (by decide) ?_
      exact r_reti f_40_41 rfl (k3 c1 c2)
    · refine r_iconst f_40_36 (by decide) ?_
      refine r_goto (t := 41) f_40_37 rfl ?_
      exact r_reti f_40_41 rfl (k4 c1 c2)
  · refine r_aload_n (v := f0) f_40_9 rfl (F_n h_f0) ?_
    refine r_getr (q := (f0 + 7)) f_40_10 (F_k h_f0) (by decide) (Or.inl rfl) rfl ?_
    refine r_iload_n (v := x1) f_40_13 rfl ?_
    refine r_iaload (n := 10) (v := h (f0 + 7) x1.toNat) f_40_14 (F_7 h_f0) o1 rfl ?_
    exact r_reti f_40_15 rfl (k5 c1)

theorem c_Fl_holderOf {Q : PQ} {h : HP} {x1 : Int} {f0 : Nat} (h_f0 : isF f0) (o1 : WR (rmC h f0)) (o2 : 0 ≤ x1 ∧ x1 < h f0 3) (k : Q (some (vi (rHo (rmC h f0) x1.toNat))) h) :
    Wp true i_Fl_holderOf 0 [vr f0, vi x1] [] h Q := by
  have w := WC_0 o1
  have w1 := WC_t o1 o2.1 o2.2
  simp only [rHo_C o1 o2.1 o2.2] at k
  refine g_Fl_holderOf_0 h_f0 ?_ ?_ ?_ ?_ ?_
  · intros; first | omega | exact ⟨by omega, by omega⟩
  · intros; first | omega | exact ⟨by omega, by omega⟩
  · intros; first | exact k | (refine kv k ?_; omega) | (refine kv k ?_; simp only [*, if_true, if_false]; try omega) | (refine kv k ?_; split <;> omega)
  · intros; first | exact k | (refine kv k ?_; omega) | (refine kv k ?_; simp only [*, if_true, if_false]; try omega) | (refine kv k ?_; split <;> omega)
  · intros; first | exact k | (refine kv k ?_; omega) | (refine kv k ?_; simp only [*, if_true, if_false]; try omega) | (refine kv k ?_; split <;> omega)

theorem g_Fl_boardsInRow_0 {Q : PQ} {h : HP} {x1 : Int} {x2 : Int} {f0 : Nat} (h_f0 : isF f0)
    (o1 : ¬ x1 = 0 → 0 ≤ x2 ∧ x2 < 7)
    (o2 : ¬ x1 = 0 → -2147483648 ≤ (h f0 0) - (h (f0 + 2) x2.toNat) ∧ (h f0 0) - (h (f0 + 2) x2.toNat) ≤ 2147483647)
    (k3 : ¬ x1 = 0 → Q (some (vi ((h f0 0) - (h (f0 + 2) x2.toNat)))) h)
    (o4 : x1 = 0 → 0 ≤ x2 ∧ x2 < 7)
    (k5 : x1 = 0 → Q (some (vi (h (f0 + 2) x2.toNat))) h) :
    Wp true i_Fl_boardsInRow 0 [vr f0, vi x1, vi x2] [] h Q := by
  refine r_iload_n (v := x1) f_41_0 rfl ?_
  refine r_br (t := 13) f_41_1 rfl cb_ne (fun c1 => ?_) (fun c1 => ?_)
  · refine r_aload_n (v := f0) f_41_13 rfl (F_n h_f0) ?_
    refine r_geti (v := h f0 0) f_41_14 (F_k h_f0) (by decide) rfl ?_
    refine r_aload_n (v := f0) f_41_17 rfl (F_n h_f0) ?_
    refine r_getr (q := (f0 + 2)) f_41_18 (F_k h_f0) (by decide) (Or.inl rfl) rfl ?_
    refine r_iload_n (v := x2) f_41_21 rfl ?_
    refine r_iaload (n := 7) (v := h (f0 + 2) x2.toNat) f_41_22 (F_2 h_f0) (o1 c1) rfl ?_
    refine r_isub (u := (h f0 0) - (h (f0 + 2) x2.toNat)) f_41_23 rfl (o2 c1) ?_
    exact r_reti f_41_24 rfl (k3 c1)
  · have c1 := Decidable.not_not.mp c1
    refine r_aload_n (v := f0) f_41_4 rfl (F_n h_f0) ?_
    refine r_getr (q := (f0 + 2)) f_41_5 (F_k h_f0) (by decide) (Or.inl rfl) rfl ?_
    refine r_iload_n (v := x2) f_41_8 rfl ?_
    refine r_iaload (n := 7) (v := h (f0 + 2) x2.toNat) f_41_9 (F_2 h_f0) (o4 c1) rfl ?_
    refine r_goto (t := 24) f_41_10 rfl ?_
    exact r_reti f_41_24 rfl (k5 c1)

theorem c_Fl_boardsInRow {Q : PQ} {h : HP} {x1 : Int} {x2 : Int} {f0 : Nat} (h_f0 : isF f0) (o1 : WR (rmC h f0)) (o2 : 0 ≤ x2 ∧ x2 < h f0 1) (k : Q (some (vi (rIn (rmC h f0) x1 x2.toNat))) h) :
    Wp true i_Fl_boardsInRow 0 [vr f0, vi x1, vi x2] [] h Q := by
  have w := WC_0 o1
  have w1 := WC_1 o1 o2.1 o2.2
  simp only [rIn, w1.2.2, (cR_0 _ _).1] at k
  refine g_Fl_boardsInRow_0 h_f0 ?_ ?_ ?_ ?_ ?_
  · intros; first | omega | exact ⟨by omega, by omega⟩
  · intros; first | omega | exact ⟨by omega, by omega⟩
  · intros; first | exact k | (refine kv k ?_; omega) | (refine kv k ?_; simp only [*, if_true, if_false]; try omega) | (refine kv k ?_; split <;> omega)
  · intros; first | omega | exact ⟨by omega, by omega⟩
  · intros; first | exact k | (refine kv k ?_; omega) | (refine kv k ?_; simp only [*, if_true, if_false]; try omega) | (refine kv k ?_; split <;> omega)

theorem g_Fl_bendAt_0 {Q : PQ} {h : HP} {x1 : Int} {f0 : Nat} (h_f0 : isF f0)
    (o1 : 0 ≤ x1 ∧ x1 < 7)
    (o2 : -2147483648 ≤ x1 - 1 ∧ x1 - 1 ≤ 2147483647)
    (o3 : 0 ≤ x1 - 1 ∧ x1 - 1 < 7)
    (o4 : -2147483648 ≤ (h (f0 + 2) x1.toNat) - (h (f0 + 2) (x1 - 1).toNat) ∧ (h (f0 + 2) x1.toNat) - (h (f0 + 2) (x1 - 1).toNat) ≤ 2147483647)
    (o5 : -2147483647 ≤ ((h (f0 + 2) x1.toNat) - (h (f0 + 2) (x1 - 1).toNat)) ∧ ((h (f0 + 2) x1.toNat) - (h (f0 + 2) (x1 - 1).toNat)) ≤ 2147483647)
    (k6 : Q (some (vi (((h (f0 + 2) x1.toNat) - (h (f0 + 2) (x1 - 1).toNat)).natAbs : Int))) h) :
    Wp true i_Fl_bendAt 0 [vr f0, vi x1] [] h Q := by
  refine r_aload_n (v := f0) f_49_0 rfl (F_n h_f0) ?_
  refine r_getr (q := (f0 + 2)) f_49_1 (F_k h_f0) (by decide) (Or.inl rfl) rfl ?_
  refine r_iload_n (v := x1) f_49_4 rfl ?_
  refine r_iaload (n := 7) (v := h (f0 + 2) x1.toNat) f_49_5 (F_2 h_f0) o1 rfl ?_
  refine r_aload_n (v := f0) f_49_6 rfl (F_n h_f0) ?_
  refine r_getr (q := (f0 + 2)) f_49_7 (F_k h_f0) (by decide) (Or.inl rfl) rfl ?_
  refine r_iload_n (v := x1) f_49_10 rfl ?_
  refine r_iconst f_49_11 (by decide) ?_
  refine r_isub (u := x1 - 1) f_49_12 rfl o2 ?_
  refine r_iaload (n := 7) (v := h (f0 + 2) (x1 - 1).toNat) f_49_13 (F_2 h_f0) o3 rfl ?_
  refine r_isub (u := (h (f0 + 2) x1.toNat) - (h (f0 + 2) (x1 - 1).toNat)) f_49_14 rfl o4 ?_
  refine r_calls (as := [vi ((h (f0 + 2) x1.toNat) - (h (f0 + 2) (x1 - 1).toNat))]) (st' := []) (ls0 := [vi ((h (f0 + 2) x1.toNat) - (h (f0 + 2) (x1 - 1).toNat))]) f_49_15 (by decide) (by decide) rfl rfl (Nat.le_of_ble_eq_true rfl) (Nat.le_of_ble_eq_true rfl) rfl ?_
  refine c_Ma_abs o5 ?_
  show Wp true i_Fl_bendAt 18 [vr f0, vi x1] [vi (((h (f0 + 2) x1.toNat) - (h (f0 + 2) (x1 - 1).toNat)).natAbs : Int)] h Q
  exact r_reti f_49_18 rfl k6

theorem c_Fl_bendAt {Q : PQ} {h : HP} {x1 : Int} {f0 : Nat} (h_f0 : isF f0) (o1 : WR (rmC h f0)) (o2 : 1 ≤ x1 ∧ x1 < h f0 1) (k : Q (some (vi (rBend (rmC h f0) x1.toNat))) h) :
    Wp true i_Fl_bendAt 0 [vr f0, vi x1] [] h Q := by
  have w := WC_0 o1
  have w1 := WC_1 o1 (r := x1) (by omega) o2.2
  have w2 := WC_1 o1 (r := x1 - 1) (by omega) (by omega)
  have e : x1.toNat - 1 = (x1 - 1).toNat := by omega
  simp only [rBend, w1.2.2, e, w2.2.2] at k
  refine g_Fl_bendAt_0 h_f0 ?_ ?_ ?_ ?_ ?_ ?_
  · intros; first | omega | exact ⟨by omega, by omega⟩
  · intros; first | omega | exact ⟨by omega, by omega⟩
  · intros; first | omega | exact ⟨by omega, by omega⟩
  · intros; first | omega | exact ⟨by omega, by omega⟩
  · intros; first | omega | exact ⟨by omega, by omega⟩
  · intros; first | exact k | (refine kv k ?_; omega) | (refine kv k ?_; simp only [*, if_true, if_false]; try omega) | (refine kv k ?_; split <;> omega)

theorem g_C_within_0 {Q : PQ} {h : HP} {x0 : Int} {x1 : Int} {x2 : Int} 
    (k1 : x0 < x1 → Q (some (vi 0)) h)
    (k2 : ¬ x0 < x1 → x2 < x0 → Q (some (vi 0)) h)
    (k3 : ¬ x0 < x1 → ¬ x2 < x0 → Q (some (vi 1)) h) :
    Wp true i_C_within 0 [vi x0, vi x1, vi x2] [] h Q := by
  refine r_iload_n (v := x0) f_219_0 rfl ?_
  refine r_iload_n (v := x1) f_219_1 rfl ?_
  refine r_br2 (t := 14) f_219_2 rfl cb_lt (fun c1 => ?_) (fun c1 => ?_)
  · refine r_iconst f_219_14 (by decide) ?_
    exact r_retz f_219_15 rfl (by decide) (k1 c1)
  · refine r_iload_n (v := x0) f_219_5 rfl ?_
    refine r_iload_n (v := x2) f_219_6 rfl ?_
    refine r_br2 (t := 14) f_219_7 rfl cb_gt (fun c2 => ?_) (fun c2 => ?_)
    · refine r_iconst f_219_14 (by decide) ?_
      exact r_retz f_219_15 rfl (by decide) (k2 c1 c2)
    · refine r_iconst f_219_10 (by decide) ?_
      refine r_goto (t := 15) f_219_11 rfl ?_
      exact r_retz f_219_15 rfl (by decide) (k3 c1 c2)

theorem c_C_within {Q : PQ} {h : HP} {x0 : Int} {x1 : Int} {x2 : Int} (k : Q (some (vi (bi (x1 ≤ x0 ∧ x0 ≤ x2)))) h) :
    Wp true i_C_within 0 [vi x0, vi x1, vi x2] [] h Q := by
  refine g_C_within_0 ?_ ?_ ?_
  · intros; exact kf k (by omega)
  · intros; exact kf k (by omega)
  · intros; exact kt k (by omega)

theorem g_C_isLand_0 {Q : PQ} {h : HP} {x0 : Int} 
    (k1 : x0 = 0 → Q (some (vi 1)) h)
    (k2 : ¬ x0 = 0 → ¬ x0 = 1 → Q (some (vi 0)) h)
    (k3 : ¬ x0 = 0 → x0 = 1 → Q (some (vi 1)) h) :
    Wp true i_C_isLand 0 [vi x0] [] h Q := by
  refine r_iload_n (v := x0) f_218_0 rfl ?_
  refine r_br (t := 9) f_218_1 rfl cb_eq (fun c1 => ?_) (fun c1 => ?_)
  · refine r_iconst f_218_9 (by decide) ?_
    refine r_goto (t := 14) f_218_10 rfl ?_
    exact r_retz f_218_14 rfl (by decide) (k1 c1)
  · refine r_iload_n (v := x0) f_218_4 rfl ?_
    refine r_iconst f_218_5 (by decide) ?_
    refine r_br2 (t := 13) f_218_6 rfl cb_ne (fun c2 => ?_) (fun c2 => ?_)
    · refine r_iconst f_218_13 (by decide) ?_
      exact r_retz f_218_14 rfl (by decide) (k2 c1 c2)
    · have c2 := Decidable.not_not.mp c2
      refine r_iconst f_218_9 (by decide) ?_
      refine r_goto (t := 14) f_218_10 rfl ?_
      exact r_retz f_218_14 rfl (by decide) (k3 c1 c2)

theorem c_C_isLand {Q : PQ} {h : HP} {x0 : Int} (k : Q (some (vi (bi (x0 = 0 ∨ x0 = 1)))) h) :
    Wp true i_C_isLand 0 [vi x0] [] h Q := by
  refine g_C_isLand_0 ?_ ?_ ?_
  · intros; exact kt k (by omega)
  · intros; exact kf k (by omega)
  · intros; exact kt k (by omega)

theorem g_C_isTray_0 {Q : PQ} {h : HP} {x0 : Int} 
    (k1 : Q (some (vi (bi (0 ≤ x0 ∧ x0 ≤ 3)))) h) :
    Wp true i_C_isTray 0 [vi x0] [] h Q := by
  refine r_iload_n (v := x0) f_217_0 rfl ?_
  refine r_iconst f_217_1 (by decide) ?_
  refine r_iconst f_217_2 (by decide) ?_
  refine r_calls (as := [vi x0, vi 0, vi 3]) (st' := []) (ls0 := [vi x0, vi 0, vi 3]) f_217_3 (by decide) (by decide) rfl rfl (Nat.le_of_ble_eq_true rfl) (Nat.le_of_ble_eq_true rfl) rfl ?_
  refine c_C_within  ?_
  show Wp true i_C_isTray 6 [vi x0] [vi (bi (0 ≤ x0 ∧ x0 ≤ 3))] h Q
  exact r_retz f_217_6 rfl (bi_01 _) k1

theorem c_C_isTray {Q : PQ} {h : HP} {x0 : Int} (k : Q (some (vi (bi (0 ≤ x0 ∧ x0 ≤ 3)))) h) :
    Wp true i_C_isTray 0 [vi x0] [] h Q := by
  refine g_C_isTray_0 ?_
  · intros; exact kb k (by omega)

theorem g_C_answer_0 {Q : PQ} {h : HP} {x1 : Int} 
    (k1 : Q (some (vi x1)) (hs h 0 0 0)) :
    Wp true i_C_answer 0 [vr 0, vi x1] [] h Q := by
  refine r_aload_n (v := 0) f_204_0 rfl (by decide) ?_
  refine r_iconst f_204_1 (by decide) ?_
  refine r_puti f_204_2 rfl (by decide) ?_
  refine r_iload_n (v := x1) f_204_5 rfl ?_
  exact r_reti f_204_6 rfl k1

theorem c_C_answer {Q : PQ} {h : HP} {x1 : Int} (k : Q (some (vi x1)) (hs h 0 0 0)) :
    Wp true i_C_answer 0 [vr 0, vi x1] [] h Q := by
  refine g_C_answer_0 ?_
  · intros; first | exact k | (refine kv k ?_; omega) | (refine kv k ?_; simp only [*, if_true, if_false]; try omega) | (refine kv k ?_; split <;> omega)

theorem g_C_refuse_0 {Q : PQ} {h : HP} {x1 : Int} 
    (k1 : Q (some (vi (-1))) (hs h 0 0 x1)) :
    Wp true i_C_refuse 0 [vr 0, vi x1] [] h Q := by
  refine r_aload_n (v := 0) f_206_0 rfl (by decide) ?_
  refine r_iload_n (v := x1) f_206_1 rfl ?_
  refine r_puti f_206_2 rfl (by decide) ?_
  refine r_iconst f_206_5 (by decide) ?_
  exact r_reti f_206_6 rfl k1

theorem c_C_refuse {Q : PQ} {h : HP} {x1 : Int} (k : Q (some (vi (-1))) (hs h 0 0 x1)) :
    Wp true i_C_refuse 0 [vr 0, vi x1] [] h Q := by
  refine g_C_refuse_0 ?_
  · intros; first | exact k | (refine kv k ?_; omega) | (refine kv k ?_; simp only [*, if_true, if_false]; try omega) | (refine kv k ?_; split <;> omega)

theorem g_C_boardNumber_0 {Q : PQ} {h : HP} {x0 : Int} {x1 : Int} 
    (o1 : -2147483648 ≤ x1 * 9 ∧ x1 * 9 ≤ 2147483647)
    (o2 : -2147483648 ≤ (x1 * 9) + x0 ∧ (x1 * 9) + x0 ≤ 2147483647)
    (k3 : Q (some (vi ((x1 * 9) + x0))) h) :
    Wp true i_C_boardNumber 0 [vi x0, vi x1] [] h Q := by
  refine r_iload_n (v := x1) f_220_0 rfl ?_
  refine r_bipush f_220_1 (by decide) ?_
  refine r_imul (u := x1 * 9) f_220_3 rfl o1 ?_
  refine r_iload_n (v := x0) f_220_4 rfl ?_
  refine r_iadd (u := (x1 * 9) + x0) f_220_5 rfl o2 ?_
  exact r_reti f_220_6 rfl k3

theorem c_C_boardNumber {Q : PQ} {h : HP} {x0 : Int} {x1 : Int} (o1 : 0 ≤ x0 ∧ x0 < 100) (o2 : 0 ≤ x1 ∧ x1 < 100) (k : Q (some (vi (x1 * 9 + x0))) h) :
    Wp true i_C_boardNumber 0 [vi x0, vi x1] [] h Q := by
  refine g_C_boardNumber_0 ?_ ?_ ?_
  · intros; first | omega | exact ⟨by omega, by omega⟩
  · intros; first | omega | exact ⟨by omega, by omega⟩
  · intros; first | exact k | (refine kv k ?_; omega) | (refine kv k ?_; simp only [*, if_true, if_false]; try omega) | (refine kv k ?_; split <;> omega)


theorem g_Fl_thingAt_0 {Q : PQ} {h : HP} {x1 : Int} {x2 : Int} {f0 : Nat} (h_f0 : isF f0)
    (k1 : Wp true i_Fl_thingAt 2 [vr f0, vi x1, vi x2, vi 0] [] h Q) :
    Wp true i_Fl_thingAt 0 [vr f0, vi x1, vi x2, vr 9999] [] h Q := by
  refine r_iconst f_35_0 (by decide) ?_
  refine r_istore_n (ls' := [vr f0, vi x1, vi x2, vi 0]) f_35_1 (Nat.le_of_ble_eq_true rfl) rfl ?_
  exact k1

theorem g_Fl_thingAt_2 {Q : PQ} {h : HP} {x1 : Int} {x2 : Int} {x3 : Int} {f0 : Nat} (h_f0 : isF f0)
    (k1 : h f0 3 ≤ x3 → Q (some (vi (-1))) h)
    (o2 : ¬ h f0 3 ≤ x3 → 0 ≤ x3 ∧ x3 < 10)
    (o3 : ¬ h f0 3 ≤ x3 → ¬ h (f0 + 4) x3.toNat = x1 → -2147483648 ≤ x3 + 1 ∧ x3 + 1 ≤ 2147483647)
    (k4 : ¬ h f0 3 ≤ x3 → ¬ h (f0 + 4) x3.toNat = x1 → Wp true i_Fl_thingAt 2 [vr f0, vi x1, vi x2, vi (x3 + 1)] [] h Q)
    (o5 : ¬ h f0 3 ≤ x3 → h (f0 + 4) x3.toNat = x1 → ¬ h (f0 + 5) x3.toNat = x2 → -2147483648 ≤ x3 + 1 ∧ x3 + 1 ≤ 2147483647)
    (k6 : ¬ h f0 3 ≤ x3 → h (f0 + 4) x3.toNat = x1 → ¬ h (f0 + 5) x3.toNat = x2 → Wp true i_Fl_thingAt 2 [vr f0, vi x1, vi x2, vi (x3 + 1)] [] h Q)
    (k7 : ¬ h f0 3 ≤ x3 → h (f0 + 4) x3.toNat = x1 → h (f0 + 5) x3.toNat = x2 → Q (some (vi x3)) h) :
    Wp true i_Fl_thingAt 2 [vr f0, vi x1, vi x2, vi x3] [] h Q := by
  refine r_iload_n (v := x3) f_35_2 rfl ?_
  refine r_aload_n (v := f0) f_35_3 rfl (F_n h_f0) ?_
  refine r_geti (v := h f0 3) f_35_4 (F_k h_f0) (by decide) rfl ?_
  refine r_br2 (t := 38) f_35_7 rfl cb_ge (fun c1 => ?_) (fun c1 => ?_)
  · refine r_iconst f_35_38 (by decide) ?_
    exact r_reti f_35_39 rfl (k1 c1)
  · refine r_aload_n (v := f0) f_35_10 rfl (F_n h_f0) ?_
    refine r_getr (q := (f0 + 4)) f_35_11 (F_k h_f0) (by decide) (Or.inl rfl) rfl ?_
    refine r_iload_n (v := x3) f_35_14 rfl ?_
    refine r_iaload (n := 10) (v := h (f0 + 4) x3.toNat) f_35_15 (F_4 h_f0) (o2 c1) rfl ?_
    refine r_iload_n (v := x1) f_35_16 rfl ?_
    refine r_br2 (t := 32) f_35_17 rfl cb_ne (fun c2 => ?_) (fun c2 => ?_)
    · refine r_iinc (v := x3) (w := x3 + 1) (ls' := [vr f0, vi x1, vi x2, vi (x3 + 1)]) f_35_32 rfl rfl (o3 c1 c2) rfl ?_
      refine r_goto (t := 2) f_35_35 rfl ?_
      exact (k4 c1 c2)
    · have c2 := Decidable.not_not.mp c2
      refine r_aload_n (v := f0) f_35_20 rfl (F_n h_f0) ?_
      refine r_getr (q := (f0 + 5)) f_35_21 (F_k h_f0) (by decide) (Or.inl rfl) rfl ?_
      refine r_iload_n (v := x3) f_35_24 rfl ?_
      refine r_iaload (n := 10) (v := h (f0 + 5) x3.toNat) f_35_25 (F_5 h_f0) (o2 c1) rfl ?_
      refine r_iload_n (v := x2) f_35_26 rfl ?_
      refine r_br2 (t := 32) f_35_27 rfl cb_ne (fun c3 => ?_) (fun c3 => ?_)
      · refine r_iinc (v := x3) (w := x3 + 1) (ls' := [vr f0, vi x1, vi x2, vi (x3 + 1)]) f_35_32 rfl rfl (o5 c1 c2 c3) rfl ?_
        refine r_goto (t := 2) f_35_35 rfl ?_
        exact (k6 c1 c2 c3)
      · have c3 := Decidable.not_not.mp c3
        refine r_iload_n (v := x3) f_35_30 rfl ?_
        exact r_reti f_35_31 rfl (k7 c1 c2 c3)

theorem c_Fl_thingAt {Q : PQ} {h : HP} {x1 : Int} {x2 : Int} {f0 : Nat} (h_f0 : isF f0) (o1 : WR (rmC h f0)) (k : Q (some (vi (rOn (rmC h f0) x1 x2))) h) :
    Wp true i_Fl_thingAt 0 [vr f0, vi x1, vi x2, vr 9999] [] h Q := by
  have w := WC_0 o1
  refine g_Fl_thingAt_0 h_f0 ?_
  have key : ∀ (d i : Nat), (i : Int) + d = h f0 3 → Q (some (vi (fnd (fun j => rmC h f0 2 j = x1 ∧ rmC h f0 3 j = x2) d i))) h → Wp true i_Fl_thingAt 2 [vr f0, vi x1, vi x2, vi (i : Int)] [] h Q := by
    intro d
    induction d with
    | zero =>
      intro i e kk
      refine g_Fl_thingAt_2 h_f0 ?_ ?_ ?_ ?_ ?_ ?_ ?_
      · intro c1; (try simp only [Int.toNat_natCast] at c1); first | (exfalso; omega) | (exact kk)
      · intro c1; (try simp only [Int.toNat_natCast] at c1); first | omega | (exfalso; omega) | exact ⟨by omega, by omega⟩ | (omega)
      · intro c1 c2; (try simp only [Int.toNat_natCast] at c1 c2); first | omega | (exfalso; omega) | exact ⟨by omega, by omega⟩ | (omega)
      · intro c1 c2; (try simp only [Int.toNat_natCast] at c1 c2); first | (exfalso; omega) | (skip)
      · intro c1 c2 c3; (try simp only [Int.toNat_natCast] at c1 c2 c3); first | omega | (exfalso; omega) | exact ⟨by omega, by omega⟩ | (omega)
      · intro c1 c2 c3; (try simp only [Int.toNat_natCast] at c1 c2 c3); first | (exfalso; omega) | (skip)
      · intro c1 c2 c3; (try simp only [Int.toNat_natCast] at c1 c2 c3); first | (exfalso; omega) | (skip)
    | succ d ih =>
      intro i e kk
      obtain ⟨e1, e2, -⟩ := cR_t (h := h) (f := f0) (i := i) (by omega)
      refine g_Fl_thingAt_2 h_f0 ?_ ?_ ?_ ?_ ?_ ?_ ?_
      · intro c1; (try simp only [Int.toNat_natCast] at c1); first | (exfalso; omega) | (skip)
      · intro c1; (try simp only [Int.toNat_natCast] at c1); first | omega | (exfalso; omega) | exact ⟨by omega, by omega⟩ | (omega)
      · intro c1 c2; (try simp only [Int.toNat_natCast] at c1 c2); first | omega | (exfalso; omega) | exact ⟨by omega, by omega⟩ | (omega)
      · intro c1 c2; (try simp only [Int.toNat_natCast] at c1 c2); first | (exfalso; omega) | (refine ih (i + 1) (by omega) ?_; rw [fnd_s (by rw [e1, e2]; intro q; exact c2 q.1)] at kk; exact kk)
      · intro c1 c2 c3; (try simp only [Int.toNat_natCast] at c1 c2 c3); first | omega | (exfalso; omega) | exact ⟨by omega, by omega⟩ | (omega)
      · intro c1 c2 c3; (try simp only [Int.toNat_natCast] at c1 c2 c3); first | (exfalso; omega) | (refine ih (i + 1) (by omega) ?_; rw [fnd_s (by rw [e1, e2]; intro q; exact c3 q.2)] at kk; exact kk)
      · intro c1 c2 c3; (try simp only [Int.toNat_natCast] at c1 c2 c3); first | (exfalso; omega) | (rw [fnd_h (by rw [e1, e2]; exact ⟨c2, c3⟩)] at kk; exact kk)
  refine key (h f0 3).toNat 0 (by omega) ?_
  exact k
