/-! ===== TALKS as numbers: T 0 the word (as the reference numbers it), T 1 .. T 3 its numbers, T 4 the partner, T 5 the sign ===== -/
def wdM (w : Int) : Int := if w = 14 then 13 else if w = 19 then 16 else if w = 20 then 17 else if w = 21 then 18 else if w = 16 then 1519 else if w = 17 then 1520 else if w = 18 then 1521 else if 9 ≤ w ∧ w ≤ 12 then w else 0
def tkC (h : HP) (t : Nat) : HP := fun k e =>
  if (e : Int) < h t 2 then
    (if k = 0 then wdM (h (t + 1) e) else if k = 1 then h (t + 2) e
     else if k = 2 then (if h (t + 1) e = 16 ∨ h (t + 1) e = 17 then h (t + 4) e else h (t + 3) e)
     else if k = 3 then (if h (t + 1) e = 16 ∨ h (t + 1) e = 17 then 0 else h (t + 4) e)
     else if k = 4 then (if 16 ≤ h (t + 1) e ∧ h (t + 1) e ≤ 20 then h (t + 5) e else 0)
     else if k = 5 then (if h (t + 1) e = 16 ∨ h (t + 1) e = 17 then h (t + 3) e else 0) else 0)
  else 0
def tkM (h : HP) (s : Nat) : HP := fun k e => if (e : Int) < h 104 (s + 7) ∧ k < 6 then h 104 (s + 75 + 7 * e + k) else 0
/-- how deep an entry stands -/
def dpT (T : HP) : Nat → Int
  | 0 => 0
  | e + 1 => dpT T e + (if T 0 e = 16 ∨ 1519 ≤ T 0 e then 1 else if T 0 e = 17 then -1 else 0)
def NS (T : HP) (n : Int) : Prop :=
  (∀ e : Nat, (e : Int) ≤ n → 0 ≤ dpT T e) ∧ ∀ o : Nat, (o : Int) < n → (T 0 o = 16 ∨ 1519 ≤ T 0 o) → dpT T ((T 4 o).toNat + 1) = dpT T o ∧ ∀ j : Nat, o < j → (j : Int) ≤ T 4 o → dpT T o < dpT T j
/-- TALKS that may be run in a ROOM: each entry's numbers are right, and the ends stand where they must -/
def WT (T : HP) (n : Int) (R : HP) : Prop :=
  0 ≤ n ∧ n ≤ 60 ∧ (∀ e : Nat, (e : Int) < n →
    (T 0 e = 9 ∧ (T 1 e = 0 ∨ T 1 e = 1) ∧ (0 ≤ T 2 e ∧ T 2 e < R 0 1) ∧ (1 ≤ T 3 e ∧ T 3 e ≤ 9)) ∨ T 0 e = 10 ∨ (T 0 e = 11 ∧ 0 ≤ T 1 e ∧ T 1 e < R 0 1) ∨
    (T 0 e = 12 ∧ (0 ≤ T 1 e ∧ T 1 e < R 0 3) ∧ (0 ≤ T 2 e ∧ T 2 e < R 0 0) ∧ (0 ≤ T 3 e ∧ T 3 e < R 0 1)) ∨ (T 0 e = 13 ∧ (T 1 e = 0 ∨ T 1 e = 1)) ∨ T 0 e = 18 ∨
    (T 0 e = 16 ∧ 1 ≤ T 1 e ∧ T 1 e ≤ 99 ∧ (e : Int) < T 4 e ∧ T 4 e < n ∧ T 0 (T 4 e).toNat = 17 ∧ T 4 (T 4 e).toNat = e) ∨
    (T 0 e = 17 ∧ 0 ≤ T 4 e ∧ T 4 e < e ∧ T 4 (T 4 e).toNat = e ∧ (T 0 (T 4 e).toNat = 16 ∨ 1519 ≤ T 0 (T 4 e).toNat)) ∨
    (1519 ≤ T 0 e ∧ T 0 e ≤ 1521 ∧ (T 1 e = 0 ∨ T 1 e = 1) ∧ (T 0 e = 1521 → 0 ≤ T 2 e ∧ T 2 e < R 0 3) ∧ (T 0 e < 1521 → 0 ≤ T 2 e ∧ T 2 e ≤ 999 ∧ (T 5 e = 60 ∨ T 5 e = 61 ∨ T 5 e = 62)) ∧ (e : Int) < T 4 e ∧ T 4 e < n ∧ T 0 (T 4 e).toNat = 17 ∧ T 4 (T 4 e).toNat = e)) ∧ NS T n
/-- a NAME by its letters (1 .. 26 each), in the class's number and in the reference's -/
def nm32 : List Nat → Int
  | [] => 0
  | c :: l => nm32 l * 32 + c
def nm256 : List Nat → Int
  | [] => 0
  | c :: l => nm256 l * 256 + (c + 96)
def NmE (a b : Int) : Prop := ∃ l : List Nat, 1 ≤ l.length ∧ l.length ≤ 8 ∧ (∀ c ∈ l, 1 ≤ c ∧ c ≤ 26) ∧ a = nm32 l ∧ b = nm256 l
/-- the class's ROOM and TALKS f, t, and the reference's slot s, whose names begin at nb -/
def Slot (n : Nat) (h : HP) (f t s nb : Nat) : Prop :=
  rmC h f = rmM h s ∧ WR (rmC h f) ∧
  (0 ≤ h (f + 1) 0 ∧ h (f + 1) 0 ≤ 3000 * n) ∧ (0 ≤ h (f + 1) 1 ∧ h (f + 1) 1 ≤ 3000 * n) ∧ (0 ≤ h f 4 ∧ h f 4 ≤ 3000 * n) ∧
  (∀ i : Nat, (i : Int) < h f 3 → NmE (h (f + 3) i) (h 105 (nb + i))) ∧
  ((h t 0 = 0 ∧ h 104 (s + 7) = -1 ∧ 0 ≤ h t 2 ∧ h t 2 ≤ 60) ∨ (h t 0 = 1 ∧ h t 2 = h 104 (s + 7) ∧ tkC h t = tkM h s ∧ WT (tkC h t) (h t 2) (rmC h f)))
def RTray (h : HP) : Prop := ∀ t : Nat, t < 4 → (h 3 t = -1 ∧ h 107 t = -1) ∨ ((0 ≤ h 3 t ∧ h 3 t ≤ 3) ∧ h 3 t = h 106 t ∧ h 4 t = h 107 t ∧ (0 ≤ h 4 t ∧ h 4 t ≤ 60) ∧ ∀ p : Nat, (p : Int) < h 4 t → h 2 (60 * t + p) = h 108 (60 * t + p))
/-- the class's WORDS, letters by 32 -/
def kwC : List Int := [605677, 89, 402885, 2275475, 21243335, 52, 24627848, 12455, 2343, 26514820, 14982420, 20681904, 442053, 655, 1497, 762030, 82888851, 23114405, 8892563, 409072, 5572, 643568]
def RTape (h : HP) : Prop := (∀ i : Nat, i < 22 → h 7 i = kwC.getD i 0) ∧ h 5 2 = h 103 10 ∧ (0 ≤ h 5 2 ∧ h 5 2 ≤ 900) ∧ (∀ p : Nat, (p : Int) < h 5 2 → h 6 p = h 109 p ∧ -128 ≤ h 6 p ∧ h 6 p ≤ 127) ∧ h 5 3 = h 103 16 ∧ h 5 4 = h 103 17
def RMarks (n : Nat) (h : HP) : Prop := h 0 13 = h 103 39 ∧ (0 ≤ h 0 13 ∧ h 0 13 ≤ 3) ∧ ∀ m : Nat, (m : Int) < h 0 13 → Slot n h (40 + 14 * m) (48 + 14 * m) (500 * (m + 1)) (10 * (m + 1))
def RLived (h : HP) : Prop := h 99 7 = h 103 38 ∧ (h 99 7 = 0 ∨ h 99 7 = 1) ∧ (h 99 7 = 1 → ∀ k : Nat, k < 5 → h 102 k = h 122 k)
/-- the class and the reference, after n calls -/
def Rel (n : Nat) (h : HP) : Prop :=
  h 0 0 = h 103 2 ∧ h 0 1 = h 103 3 ∧ h 0 2 = h 103 4 ∧ RTray h ∧ RTape h ∧ Slot n h 10 26 0 0 ∧ RMarks n h ∧ RLived h
/-- what a call of both must do: answer alike, and keep the relation -/
def Agree (n : Nat) (h : HP) (ic im : Nat) (lc lm : List AV) : Prop :=
  ∃ (v : AV) (Mid : HP → Prop), (∀ h1, Mid h1 → h1 1000 = h 1000 ∧ h1 1001 = h 1001) ∧ (∀ Q : PQ, (∀ h1, Mid h1 → Q (some v) h1) → Wp true ic 0 lc [] h Q) ∧
    (∀ (h1 : HP) (Q : PQ), Mid h1 → (∀ h2, Rel (n + 1) h2 → h2 1000 = h 1000 → h2 1001 = h 1001 → Q (some v) h2) → Wp true im 0 lm [] h1 Q)
/-- the cells that the relation speaks of -/
theorem rmC_congr {h h' : HP} {f : Nat} (h0 : ∀ i, h' f i = h f i) (h1 : h' (f + 1) = h (f + 1)) (h2 : h' (f + 2) = h (f + 2)) (h4 : h' (f + 4) = h (f + 4)) (h5 : h' (f + 5) = h (f + 5)) (h6 : h' (f + 6) = h (f + 6)) (h7 : h' (f + 7) = h (f + 7)) : rmC h' f = rmC h f := by
  funext k i
  simp only [rmC, h0, h1, h2, h4, h5, h6, h7]
theorem rmM_congr {h h' : HP} {s : Nat} (h0 : h' 104 = h 104) : rmM h' s = rmM h s := by
  funext k i
  simp only [rmM, h0]
theorem Slot_cells {n : Nat} {h h' : HP} {f t s nb : Nat} (hS : Slot n h f t s nb) (hf : ∀ k, f ≤ k → k < f + 8 → h' k = h k) (ht : ∀ k, t ≤ k → k < t + 6 → h' k = h k) (h4 : h' 104 = h 104) (h5 : h' 105 = h 105) : Slot n h' f t s nb := by
  obtain ⟨a1, a2, a3, a4, a5, a6, a7⟩ := hS
  have e0 := hf f (by omega) (by omega)
  have e1 := hf (f + 1) (by omega) (by omega)
  have e3 := hf (f + 3) (by omega) (by omega)
  have t0 := ht t (by omega) (by omega)
  have eC : rmC h' f = rmC h f := rmC_congr (fun i => by rw [e0]) e1 (hf _ (by omega) (by omega)) (hf _ (by omega) (by omega)) (hf _ (by omega) (by omega)) (hf _ (by omega) (by omega)) (hf _ (by omega) (by omega))
  have eT : tkC h' t = tkC h t := by
    funext k e
    simp only [tkC, t0, ht (t + 1) (by omega) (by omega), ht (t + 2) (by omega) (by omega), ht (t + 3) (by omega) (by omega), ht (t + 4) (by omega) (by omega), ht (t + 5) (by omega) (by omega)]
  have eN : tkM h' s = tkM h s := by
    funext k e
    simp only [tkM, h4]
  unfold Slot
  rw [eC, rmM_congr h4, eT, eN, e0, e1, e3, t0, h4, h5]
  exact ⟨a1, a2, a3, a4, a5, a6, a7⟩
theorem Slot_mono {n m : Nat} {h : HP} {f t s nb : Nat} (hS : Slot n h f t s nb) (hn : n ≤ m) : Slot m h f t s nb := by
  obtain ⟨a1, a2, a3, a4, a5, a6, a7⟩ := hS
  exact ⟨a1, a2, by omega, by omega, by omega, a6, a7⟩
/-- a cell of the class that the relation does not speak of -/
def scr (k : Nat) : Bool := k == 8 || k == 9 || (18 ≤ k && k < 26) || (32 ≤ k && k < 38) || (82 ≤ k && k < 99) || (110 ≤ k && k < 122)
theorem Rel_keep2 {n : Nat} {h h' : HP} (hR : Rel n h)
    (h0 : h' 0 0 = h' 103 2) (ht : h' 0 1 = h' 103 3) (hb : h' 0 2 = h' 103 4) (h1 : h' 0 13 = h 0 13) (h2 : ∀ i, i = 10 ∨ i = 16 ∨ i = 17 ∨ i = 38 ∨ i = 39 → h' 103 i = h 103 i) (h3 : ∀ k, k < 123 → k ≠ 0 → k ≠ 103 → scr k = false → h' k = h k) : Rel (n + 1) h' := by
  obtain ⟨-, b1, b2, b3, b4, b5, b6, b7⟩ := hR
  have c : ∀ k, k < 123 → k ≠ 0 → k ≠ 103 → scr k = false → h' k = h k := h3
  refine ⟨h0, ht, hb, ?_, ?_, ?_, ?_, ?_⟩
  · unfold RTray
    rw [c 3 (by decide) (by decide) (by decide) (by decide), c 107 (by decide) (by decide) (by decide) (by decide), c 106 (by decide) (by decide) (by decide) (by decide), c 4 (by decide) (by decide) (by decide) (by decide), c 2 (by decide) (by decide) (by decide) (by decide), c 108 (by decide) (by decide) (by decide) (by decide)]
    exact b3
  · unfold RTape
    rw [c 7 (by decide) (by decide) (by decide) (by decide), c 5 (by decide) (by decide) (by decide) (by decide), c 6 (by decide) (by decide) (by decide) (by decide), c 109 (by decide) (by decide) (by decide) (by decide), h2 10 (by decide), h2 16 (by decide), h2 17 (by decide)]
    exact b4
  · exact Slot_mono (Slot_cells b5 (fun k k1 k2 => c k (by omega) (by omega) (by omega) (by simp [scr]; omega)) (fun k k1 k2 => c k (by omega) (by omega) (by omega) (by simp [scr]; omega)) (c 104 (by decide) (by decide) (by decide) (by decide)) (c 105 (by decide) (by decide) (by decide) (by decide))) (by omega)
  · obtain ⟨d1, d2, d3⟩ := b6
    unfold RMarks
    rw [h1, h2 39 (by decide)]
    refine ⟨d1, d2, fun m hm => ?_⟩
    exact Slot_mono (Slot_cells (d3 m hm) (fun k k1 k2 => c k (by omega) (by omega) (by omega) (by simp [scr]; omega)) (fun k k1 k2 => c k (by omega) (by omega) (by omega) (by simp [scr]; omega)) (c 104 (by decide) (by decide) (by decide) (by decide)) (c 105 (by decide) (by decide) (by decide) (by decide))) (by omega)
  · unfold RLived
    rw [c 99 (by decide) (by decide) (by decide) (by decide), h2 38 (by decide), c 102 (by decide) (by decide) (by decide) (by decide), c 122 (by decide) (by decide) (by decide) (by decide)]
    exact b7
theorem Rel_keep {n : Nat} {h h' : HP} (hR : Rel n h)
    (h0 : h' 0 0 = h' 103 2) (h1 : ∀ i, i ≠ 0 → h' 0 i = h 0 i) (h2 : ∀ i, i = 3 ∨ i = 4 ∨ i = 10 ∨ i = 16 ∨ i = 17 ∨ i = 38 ∨ i = 39 → h' 103 i = h 103 i) (h3 : ∀ k, k < 123 → k ≠ 0 → k ≠ 103 → scr k = false → h' k = h k) : Rel (n + 1) h' :=
  Rel_keep2 hR h0 (by rw [h1 1 (by decide), h2 3 (by decide)]; exact hR.2.1) (by rw [h1 2 (by decide), h2 4 (by decide)]; exact hR.2.2.1) (h1 13 (by decide)) (fun i hi => h2 i (by omega)) h3
/-- a call that only tells: both write their status alone -/
theorem ag_q {n : Nat} {h : HP} {ic im : Nat} {lc lm : List AV} {v : AV} {st : Int} (hR : Rel n h) (hc : ∀ Q : PQ, Q (some v) (hs h 0 0 st) → Wp true ic 0 lc [] h Q) (hm : ∀ Q : PQ, Q (some v) (hs (hs h 0 0 st) 103 2 st) → Wp true im 0 lm [] (hs h 0 0 st) Q) : Agree n h ic im lc lm := by
  refine ⟨v, fun h1 => h1 = hs h 0 0 st, fun h1 e => ?_, fun Q k => hc Q (k _ rfl), fun h1 Q e k => ?_⟩
  · subst e; exact ⟨hs_ne (by decide), hs_ne (by decide)⟩
  · subst e
    refine hm Q (k _ (Rel_keep hR ?_ (fun i hi => ?_) (fun i hi => ?_) (fun k k1 k2 k3 k4 => ?_)) ?_ ?_)
    · simp [hs]
    · simp [hs, hi]
    · have : i ≠ 2 := by omega
      simp [hs, this]
    · rw [hs_ne k3, hs_ne k2]
    · rw [hs_ne (by decide), hs_ne (by decide)]
    · rw [hs_ne (by decide), hs_ne (by decide)]
theorem rm_q {h : HP} {st : Int} : rmM (hs h 0 0 st) 0 = rmM h 0 := rmM_congr (hs_ne (by decide))
theorem kq {Q : PQ} {h : HP} {p : Int × Int} {c s : Nat} {a b : Int} (k : Q (some (vi p.1)) (hs h c s p.2)) (e : p = (a, b)) : Q (some (vi a)) (hs h c s b) := by subst e; exact k
