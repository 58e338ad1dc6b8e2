/-! ===== a ROOM is changed: in R by hs, too ===== -/
theorem rC_leg {h : HP} {f t : Nat} {v : Int} (ht : (t : Int) < h f 3) : rmC (hs h (f + 7) t v) f = hs (rmC h f) 6 t v := by
  have e0 : hs h (f + 7) t v f = h f := hs_ne (by omega)
  have e : ∀ j, j < 7 → hs h (f + 7) t v (f + j) = h (f + j) := fun j hj => hs_ne (by omega)
  funext k i
  simp only [rmC, e0, e 1 (by decide), e 2 (by decide), e 4 (by decide), e 5 (by decide), e 6 (by decide)]
  by_cases hk : k = 6
  · subst hk
    by_cases hi : i = t
    · subst hi; simp [hs, rmC, ht]
    · simp [hs, rmC, hi]
  · simp [hs, rmC, hk]
theorem rC_col {h : HP} {f t : Nat} {v : Int} (ht : (t : Int) < h f 3) : rmC (hs h (f + 4) t v) f = hs (rmC h f) 2 t v := by
  have e0 : hs h (f + 4) t v f = h f := hs_ne (by omega)
  have e : ∀ j, j ≠ 4 → hs h (f + 4) t v (f + j) = h (f + j) := fun j hj => hs_ne (by omega)
  funext k i
  simp only [rmC, e0, e 1 (by decide), e 2 (by decide), e 7 (by decide), e 5 (by decide), e 6 (by decide)]
  by_cases hk : k = 2
  · subst hk
    by_cases hi : i = t
    · subst hi; simp [hs, rmC, ht]
    · simp [hs, rmC, hi]
  · simp [hs, rmC, hk]
theorem rC_row {h : HP} {f t : Nat} {v : Int} (ht : (t : Int) < h f 3) : rmC (hs h (f + 5) t v) f = hs (rmC h f) 3 t v := by
  have e0 : hs h (f + 5) t v f = h f := hs_ne (by omega)
  have e : ∀ j, j ≠ 5 → hs h (f + 5) t v (f + j) = h (f + j) := fun j hj => hs_ne (by omega)
  funext k i
  simp only [rmC, e0, e 1 (by decide), e 2 (by decide), e 7 (by decide), e 4 (by decide), e 6 (by decide)]
  by_cases hk : k = 3
  · subst hk
    by_cases hi : i = t
    · subst hi; simp [hs, rmC, ht]
    · simp [hs, rmC, hi]
  · simp [hs, rmC, hk]
theorem rC_cut {h : HP} {f t : Nat} {v : Int} (ht : (t : Int) < h f 1) : rmC (hs h (f + 2) t v) f = hs (rmC h f) 1 t v := by
  have e0 : hs h (f + 2) t v f = h f := hs_ne (by omega)
  have e : ∀ j, j ≠ 2 → hs h (f + 2) t v (f + j) = h (f + j) := fun j hj => hs_ne (by omega)
  funext k i
  simp only [rmC, e0, e 1 (by decide), e 5 (by decide), e 7 (by decide), e 4 (by decide), e 6 (by decide)]
  by_cases hk : k = 1
  · subst hk
    by_cases hi : i = t
    · subst hi; simp [hs, rmC, ht]
    · simp [hs, rmC, hi]
  · simp [hs, rmC, hk]
theorem rC_bend {h : HP} {f : Nat} {v : Int} : rmC (hs h f 2 v) f = hs (rmC h f) 0 2 v := by
  have e : ∀ j, 0 < j → hs h f 2 v (f + j) = h (f + j) := fun j hj => hs_ne (by omega)
  have e1 : ∀ i, i ≠ 2 → hs h f 2 v f i = h f i := fun i hi => by simp [hs, hi]
  have e2 : hs h f 2 v f 2 = v := by simp [hs]
  funext k i
  simp only [rmC, e 1 (by decide), e 2 (by decide), e 5 (by decide), e 7 (by decide), e 4 (by decide), e 6 (by decide), e1 1 (by decide), e1 3 (by decide), e1 4 (by decide), e1 12 (by decide)]
  by_cases hk : k = 0
  · subst hk
    by_cases hi : i = 2
    · subst hi; simp [hs, rmC]
    · simp [hs, rmC, hi]
  · simp [hs, rmC, hk]
theorem rC_yld {h : HP} {f l : Nat} {v : Int} (hl : l < 2) : rmC (hs h (f + 1) l v) f = hs (rmC h f) 0 (4 + l) v := by
  have e0 : hs h (f + 1) l v f = h f := hs_ne (by omega)
  have e : ∀ j, j ≠ 1 → hs h (f + 1) l v (f + j) = h (f + j) := fun j hj => hs_ne (by omega)
  funext k i
  simp only [rmC, e0, e 2 (by decide), e 5 (by decide), e 7 (by decide), e 4 (by decide), e 6 (by decide)]
  by_cases hk : k = 0
  · subst hk
    rcases (show l = 0 ∨ l = 1 by omega) with rfl | rfl
    · by_cases hi : i = 4
      · subst hi; simp [hs, rmC]
      · simp [hs, rmC, hi]
    · by_cases hi : i = 5
      · subst hi; simp [hs, rmC]
      · simp [hs, rmC, hi]
  · simp [hs, rmC, hk]
theorem rC_ngt {h : HP} {f : Nat} {v : Int} : rmC (hs h f 4 v) f = hs (rmC h f) 0 6 v := by
  have e : ∀ j, 0 < j → hs h f 4 v (f + j) = h (f + j) := fun j hj => hs_ne (by omega)
  have e1 : ∀ i, i ≠ 4 → hs h f 4 v f i = h f i := fun i hi => by simp [hs, hi]
  funext k i
  simp only [rmC, e 1 (by decide), e 2 (by decide), e 5 (by decide), e 7 (by decide), e 4 (by decide), e 6 (by decide), e1 1 (by decide), e1 3 (by decide), e1 12 (by decide)]
  by_cases hk : k = 0
  · subst hk
    by_cases hi : i = 6
    · subst hi; simp [hs, rmC]
    · by_cases hj : i < 4
      · have : i ≠ 4 := by omega
        simp [hs, rmC, hi, hj, this]
      · simp [hs, rmC, hi, hj]
  · simp [hs, rmC, hk]
theorem WT_congr {T R R' : HP} {n : Int} (h : WT T n R) (h0 : R' 0 0 = R 0 0) (h1 : R' 0 1 = R 0 1) (h3 : R' 0 3 = R 0 3) : WT T n R' := by
  unfold WT at h ⊢
  rw [h0, h1, h3]
  exact h
theorem tkM_congr {h h' : HP} {s : Nat} (h7 : h' 104 (s + 7) = h 104 (s + 7)) (hn : h 104 (s + 7) ≤ 60) (hT : ∀ i, s + 75 ≤ i → i < s + 500 → h' 104 i = h 104 i) : tkM h' s = tkM h s := by
  funext k e
  simp only [tkM, h7]
  by_cases c : (e : Int) < h 104 (s + 7) ∧ k < 6
  · rw [if_pos c, if_pos c, hT _ (by omega) (by omega)]
  · rw [if_neg c, if_neg c]
theorem tkC_congr {h h' : HP} {t : Nat} (ht : ∀ k, t ≤ k → k < t + 6 → h' k = h k) : tkC h' t = tkC h t := by
  funext k e
  simp only [tkC, ht t (by omega) (by omega), ht (t + 1) (by omega) (by omega), ht (t + 2) (by omega) (by omega), ht (t + 3) (by omega) (by omega), ht (t + 4) (by omega) (by omega), ht (t + 5) (by omega) (by omega)]
/-- the ROOM of a slot changes on both sides alike -/
theorem Slot_upd {n m : Nat} {h h' R' : HP} {f t s nb : Nat} (hS : Slot n h f t s nb) (eC : rmC h' f = R') (eM : rmM h' s = R') (hW : WR R') (h0 : R' 0 0 = rmC h f 0 0) (h1 : R' 0 1 = rmC h f 0 1) (h3 : R' 0 3 = rmC h f 0 3)
    (b : (0 ≤ R' 0 4 ∧ R' 0 4 ≤ 3000 * m) ∧ (0 ≤ R' 0 5 ∧ R' 0 5 ≤ 3000 * m) ∧ (0 ≤ R' 0 6 ∧ R' 0 6 ≤ 3000 * m))
    (hn : h' (f + 3) = h (f + 3)) (h5 : ∀ i, nb ≤ i → i < nb + 10 → h' 105 i = h 105 i) (ht : ∀ k, t ≤ k → k < t + 6 → h' k = h k) (hT : ∀ i, s + 75 ≤ i → i < s + 500 → h' 104 i = h 104 i) (h7 : h' 104 (s + 7) = h 104 (s + 7)) : Slot m h' f t s nb := by
  obtain ⟨a1, a2, a3, a4, a5, a6, a7⟩ := hS
  have g4 : rmC h' f 0 4 = h' (f + 1) 0 := rfl
  have g5 : rmC h' f 0 5 = h' (f + 1) 1 := rfl
  have g6 : rmC h' f 0 6 = h' f 4 := rfl
  have g3 : rmC h' f 0 3 = h' f 3 := rfl
  have g3' : rmC h f 0 3 = h f 3 := rfl
  rw [eC] at g4 g5 g6 g3
  rw [h3, g3'] at g3
  refine ⟨by rw [eC, eM], by rw [eC]; exact hW, by rw [← g4]; exact b.1, by rw [← g5]; exact b.2.1, by rw [← g6]; exact b.2.2, fun i hi => ?_, ?_⟩
  · have w3 : h f 3 ≤ 10 := a2.1.2.2.2.2.2.2.2
    rw [hn, h5 (nb + i) (by omega) (by omega)]
    exact a6 i (by rw [g3]; exact hi)
  · have t0 := ht t (by omega) (by omega)
    rw [t0, h7, tkC_congr ht, eC]
    rcases a7 with ⟨c1, c2⟩ | ⟨c1, c2, c3, c4⟩
    · exact Or.inl ⟨c1, c2⟩
    · right
      refine ⟨c1, c2, ?_, WT_congr c4 h0 h1 h3⟩
      rw [c3, tkM_congr h7 (by rw [← c2]; exact c4.2.1) hT]
/-- a slot of the marks, when the numbers of other slots change -/
theorem Slot_off {n m : Nat} {h h' : HP} {f t s nb : Nat} (hS : Slot n h f t s nb) (hm : n ≤ m) (hf : ∀ k, f ≤ k → k < f + 8 → h' k = h k) (ht : ∀ k, t ≤ k → k < t + 6 → h' k = h k) (h4 : ∀ i, s ≤ i → i < s + 500 → h' 104 i = h 104 i) (h5 : ∀ i, nb ≤ i → i < nb + 10 → h' 105 i = h 105 i) : Slot m h' f t s nb := by
  have W := hS.2.1
  have e0 := hf f (by omega) (by omega)
  have e1 := hf (f + 1) (by omega) (by omega)
  have eC : rmC h' f = rmC h f := rmC_congr (fun i => by rw [e0]) e1 (hf _ (by omega) (by omega)) (hf _ (by omega) (by omega)) (hf _ (by omega) (by omega)) (hf _ (by omega) (by omega)) (hf _ (by omega) (by omega))
  have hW := W
  rw [hS.1] at hW
  have w0 := hW.1
  have d0 : rmM h s 0 1 = h 104 (s + 1) := rfl
  have d1 : rmM h s 0 3 = h 104 (s + 2) := rfl
  have eM : rmM h' s = rmM h s := by
    funext k i
    simp only [rmM, h4 (s + 3) (by omega) (by omega), h4 (s + 2) (by omega) (by omega), h4 (s + 1) (by omega) (by omega)]
    by_cases k0 : k = 0
    · simp only [k0, if_true]
      by_cases i2 : i < 2
      · rw [if_pos i2, if_pos i2, h4 (s + i) (by omega) (by omega)]
      · rw [if_neg i2, if_neg i2]
        by_cases i7 : i < 7
        · simp only [i7, if_true, h4 (s + i) (by omega) (by omega)]
        · simp only [i7, if_false]
    · simp only [if_neg k0]
      by_cases k1 : k = 1
      · simp only [k1, if_true]
        by_cases c : (i : Int) < h 104 (s + 1)
        · rw [if_pos c, if_pos c, h4 (s + 8 + i) (by omega) (by omega)]
        · rw [if_neg c, if_neg c]
      · simp only [if_neg k1]
        by_cases c : (i : Int) < h 104 (s + 2)
        · rw [if_pos c, if_pos c]
          by_cases k8 : k < 8
          · rw [if_pos k8, if_pos k8, h4 _ (by omega) (by omega)]
          · rw [if_neg k8, if_neg k8]
        · rw [if_neg c, if_neg c]
  have b3 := hS.2.2.1
  have b4 := hS.2.2.2.1
  have b5 := hS.2.2.2.2.1
  refine Slot_upd hS eC (eM.trans hS.1.symm) W rfl rfl rfl ⟨?_, ?_, ?_⟩ (hf _ (by omega) (by omega)) h5 ht (fun i i1 i2 => h4 i (by omega) i2) (h4 _ (by omega) (by omega))
  · show 0 ≤ h (f + 1) 0 ∧ h (f + 1) 0 ≤ 3000 * (m : Int); omega
  · show 0 ≤ h (f + 1) 1 ∧ h (f + 1) 1 ≤ 3000 * (m : Int); omega
  · show 0 ≤ h f 4 ∧ h f 4 ≤ 3000 * (m : Int); omega
theorem RTray_c {h h' : HP} (a : RTray h) (c : ∀ k, k = 2 ∨ k = 3 ∨ k = 4 ∨ k = 106 ∨ k = 107 ∨ k = 108 → h' k = h k) : RTray h' := by
  unfold RTray
  rw [c 3 (by decide), c 107 (by decide), c 106 (by decide), c 4 (by decide), c 2 (by decide), c 108 (by decide)]
  exact a
theorem RTape_c {h h' : HP} (a : RTape h) (c : ∀ k, k = 5 ∨ k = 6 ∨ k = 7 ∨ k = 109 → h' k = h k) (c2 : ∀ i, i = 10 ∨ i = 16 ∨ i = 17 → h' 103 i = h 103 i) : RTape h' := by
  unfold RTape
  rw [c 7 (by decide), c 5 (by decide), c 6 (by decide), c 109 (by decide), c2 10 (by decide), c2 16 (by decide), c2 17 (by decide)]
  exact a
theorem RMarks_c {n m : Nat} {h h' : HP} (a : RMarks n h) (hn : n ≤ m) (h1 : h' 0 13 = h 0 13) (h2 : h' 103 39 = h 103 39) (c : ∀ k, 40 ≤ k → k < 82 → h' k = h k) (h4 : ∀ i, 500 ≤ i → i < 2000 → h' 104 i = h 104 i) (h5 : ∀ i, 10 ≤ i → i < 40 → h' 105 i = h 105 i) : RMarks m h' := by
  obtain ⟨d1, d2, d3⟩ := a
  unfold RMarks
  rw [h1, h2]
  refine ⟨d1, d2, fun j hj => ?_⟩
  exact Slot_off (d3 j hj) hn (fun k k1 k2 => c k (by omega) (by omega)) (fun k k1 k2 => c k (by omega) (by omega)) (fun i i1 i2 => h4 i (by omega) (by omega)) (fun i i1 i2 => h5 i (by omega) (by omega))
theorem RLived_c {h h' : HP} (a : RLived h) (h1 : h' 99 7 = h 99 7) (h2 : h' 103 38 = h 103 38) (c : ∀ k, k = 102 ∨ k = 122 → h' k = h k) : RLived h' := by
  unfold RLived
  rw [h1, h2, c 102 (by decide), c 122 (by decide)]
  exact a
/-- a call that changes the ROOM (and TALKS) of slot 0 alone -/
theorem Rel_act {n : Nat} {h h' : HP} (hR : Rel n h)
    (h0 : h' 0 0 = h' 103 2) (h1 : ∀ i, i ≠ 0 → h' 0 i = h 0 i) (h2 : ∀ i, i = 3 ∨ i = 4 ∨ i = 10 ∨ i = 16 ∨ i = 17 ∨ i = 38 ∨ i = 39 → h' 103 i = h 103 i)
    (h3 : ∀ k, k < 123 → k ≠ 0 → k ≠ 103 → k ≠ 104 → ¬ (10 ≤ k ∧ k < 18) → scr k = false → h' k = h k) (h4 : ∀ i, 500 ≤ i → i < 2000 → h' 104 i = h 104 i) (hS : Slot (n + 1) h' 10 26 0 0) : Rel (n + 1) h' := by
  obtain ⟨-, b1, b2, b3, b4, -, b6, b7⟩ := hR
  have c : ∀ k, k < 123 → k ≠ 0 → k ≠ 103 → k ≠ 104 → ¬ (10 ≤ k ∧ k < 18) → scr k = false → h' k = h k := h3
  refine ⟨h0, by rw [h1 1 (by decide), h2 3 (by decide)]; exact b1, by rw [h1 2 (by decide), h2 4 (by decide)]; exact b2, ?_, ?_, hS, ?_, ?_⟩
  · exact RTray_c b3 (fun k hk => c k (by omega) (by omega) (by omega) (by omega) (by omega) (by simp [scr]; omega))
  · exact RTape_c b4 (fun k hk => c k (by omega) (by omega) (by omega) (by omega) (by omega) (by simp [scr]; omega)) (fun i hi => h2 i (by omega))
  · exact RMarks_c b6 (by omega) (h1 13 (by decide)) (h2 39 (by decide)) (fun k k1 k2 => c k (by omega) (by omega) (by omega) (by omega) (by omega) (by simp [scr]; omega)) h4 (fun i _ _ => by rw [c 105 (by decide) (by decide) (by decide) (by decide) (by decide) (by decide)])
  · exact RLived_c b7 (by rw [c 99 (by decide) (by decide) (by decide) (by decide) (by decide) (by decide)]) (h2 38 (by decide)) (fun k hk => c k (by omega) (by omega) (by omega) (by omega) (by omega) (by simp [scr]; omega))
/-- a call that changes trays alone -/
theorem Rel_tray {n : Nat} {h h' : HP} (hR : Rel n h)
    (h0 : h' 0 0 = h' 103 2) (h1 : ∀ i, i ≠ 0 → h' 0 i = h 0 i) (h2 : ∀ i, i ≠ 2 → h' 103 i = h 103 i)
    (h3 : ∀ k, k ≠ 0 → k ≠ 103 → ¬ (2 ≤ k ∧ k ≤ 4) → ¬ (106 ≤ k ∧ k ≤ 108) → h' k = h k) (hT : RTray h') : Rel (n + 1) h' := by
  obtain ⟨-, b1, b2, b3, b4, b5, b6, b7⟩ := hR
  refine ⟨h0, by rw [h1 1 (by decide), h2 3 (by decide)]; exact b1, by rw [h1 2 (by decide), h2 4 (by decide)]; exact b2, hT, ?_, ?_, ?_, ?_⟩
  · exact RTape_c b4 (fun k hk => h3 k (by omega) (by omega) (by omega) (by omega)) (fun i hi => h2 i (by omega))
  · exact Slot_off b5 (by omega) (fun k k1 k2 => h3 k (by omega) (by omega) (by omega) (by omega)) (fun k k1 k2 => h3 k (by omega) (by omega) (by omega) (by omega)) (fun i i1 i2 => by rw [h3 104 (by decide) (by decide) (by decide) (by decide)]) (fun i i1 i2 => by rw [h3 105 (by decide) (by decide) (by decide) (by decide)])
  · exact RMarks_c b6 (by omega) (h1 13 (by decide)) (h2 39 (by decide)) (fun k k1 k2 => h3 k (by omega) (by omega) (by omega) (by omega)) (fun i i1 i2 => by rw [h3 104 (by decide) (by decide) (by decide) (by decide)]) (fun i i1 i2 => by rw [h3 105 (by decide) (by decide) (by decide) (by decide)])
  · exact RLived_c b7 (by rw [h3 99 (by decide) (by decide) (by decide) (by decide)]) (h2 38 (by decide)) (fun k hk => h3 k (by omega) (by omega) (by omega) (by omega))
theorem hs_o {R : HP} {k i k' i' : Nat} {v : Int} (h : k' ≠ k ∨ i' ≠ i) : hs R k i v k' i' = R k' i' := by
  simp only [hs]; rw [if_neg (by omega)]
theorem hs_s {R : HP} {k i : Nat} {v : Int} : hs R k i v k i = v := by simp [hs]
theorem rM_t' {h : HP} {t j : Nat} {v : Int} (w1 : h 104 1 ≤ 7) (w2 : h 104 2 ≤ 10) (ht : (t : Int) < h 104 2) (hj : j < 6) : rmM (hs h 104 (15 + 6 * t + j) v) 0 = hs (rmM h 0) (2 + j) t v := by
  have e : ∀ x, x ≠ 15 + 6 * t + j → hs h 104 (15 + 6 * t + j) v 104 x = h 104 x := fun x hx => hs_o (Or.inr hx)
  have e9 : hs h 104 (15 + 6 * t + j) v 104 (15 + 6 * t + j) = v := hs_s
  funext k i
  by_cases c : k = 2 + j ∧ i = t
  · obtain ⟨c1, c2⟩ := c
    subst c1
    subst c2
    rw [hs_s]
    simp only [rmM, Nat.zero_add, e 2 (by omega)]
    rw [if_neg (by omega), if_neg (by omega), if_pos ht, if_pos (by omega), show 15 + 6 * i + (2 + j - 2) = 15 + 6 * i + j by omega]
    exact e9
  · rw [hs_o (by omega)]
    simp only [rmM, Nat.zero_add, e 1 (by omega), e 2 (by omega), e 3 (by omega)]
    by_cases k0 : k = 0
    · rw [if_pos k0, if_pos k0]
      by_cases i2 : i < 2
      · rw [if_pos i2, if_pos i2, e i (by omega)]
      · rw [if_neg i2, if_neg i2]
        by_cases i7 : i < 7
        · rw [if_pos i7, if_pos i7, e i (by omega)]
        · rw [if_neg i7, if_neg i7]
    · rw [if_neg k0, if_neg k0]
      by_cases k1 : k = 1
      · rw [if_pos k1, if_pos k1]
        by_cases c1 : (i : Int) < h 104 1
        · rw [if_pos c1, if_pos c1, e (8 + i) (by omega)]
        · rw [if_neg c1, if_neg c1]
      · rw [if_neg k1, if_neg k1]
        by_cases d : (i : Int) < h 104 2
        · rw [if_pos d, if_pos d]
          by_cases k8 : k < 8
          · rw [if_pos k8, if_pos k8, e _ (by omega)]
          · rw [if_neg k8, if_neg k8]
        · rw [if_neg d, if_neg d]
theorem rM_t {h : HP} {t j : Nat} {v : Int} (W : WR (rmM h 0)) (ht : (t : Int) < h 104 2) (hj : j < 6) : rmM (hs h 104 (15 + 6 * t + j) v) 0 = hs (rmM h 0) (2 + j) t v := by
  have w := WM_0 W
  exact rM_t' (by omega) (by omega) ht hj
theorem rM_cut {h : HP} {r : Nat} {v : Int} (W : WR (rmM h 0)) (hr : (r : Int) < h 104 1) : rmM (hs h 104 (8 + r) v) 0 = hs (rmM h 0) 1 r v := by
  have w := WM_0 W
  have e : ∀ x, x ≠ 8 + r → hs h 104 (8 + r) v 104 x = h 104 x := fun x hx => hs_o (Or.inr hx)
  have e9 : hs h 104 (8 + r) v 104 (8 + r) = v := hs_s
  funext k i
  by_cases c : k = 1 ∧ i = r
  · obtain ⟨c1, c2⟩ := c
    subst c1
    subst c2
    rw [hs_s]
    simp only [rmM, Nat.zero_add, e 1 (by omega)]
    rw [if_neg (by decide), if_pos trivial, if_pos hr]
    exact e9
  · rw [hs_o (by omega)]
    simp only [rmM, Nat.zero_add, e 1 (by omega), e 2 (by omega), e 3 (by omega)]
    by_cases k0 : k = 0
    · rw [if_pos k0, if_pos k0]
      by_cases i2 : i < 2
      · rw [if_pos i2, if_pos i2, e i (by omega)]
      · rw [if_neg i2, if_neg i2]
        by_cases i7 : i < 7
        · rw [if_pos i7, if_pos i7, e i (by omega)]
        · rw [if_neg i7, if_neg i7]
    · rw [if_neg k0, if_neg k0]
      by_cases k1 : k = 1
      · rw [if_pos k1, if_pos k1]
        by_cases c1 : (i : Int) < h 104 1
        · rw [if_pos c1, if_pos c1, e (8 + i) (by omega)]
        · rw [if_neg c1, if_neg c1]
      · rw [if_neg k1, if_neg k1]
        by_cases d : (i : Int) < h 104 2
        · rw [if_pos d, if_pos d]
          by_cases k8 : k < 8
          · rw [if_pos k8, if_pos k8, e _ (by omega)]
          · rw [if_neg k8, if_neg k8]
        · rw [if_neg d, if_neg d]
/-- bend (3), yielded (4, 5), nights (6) -/
theorem rM_hd {h : HP} {a : Nat} {v : Int} (W : WR (rmM h 0)) (ha : 3 ≤ a ∧ a < 7) : rmM (hs h 104 a v) 0 = hs (rmM h 0) 0 (if a = 3 then 2 else a) v := by
  have w := WM_0 W
  have e : ∀ x, x ≠ a → hs h 104 a v 104 x = h 104 x := fun x hx => hs_o (Or.inr hx)
  have e9 : hs h 104 a v 104 a = v := hs_s
  funext k i
  by_cases c : k = 0 ∧ i = (if a = 3 then 2 else a)
  · obtain ⟨c1, c2⟩ := c
    subst c1
    subst c2
    rw [hs_s]
    rcases (show a = 3 ∨ a = 4 ∨ a = 5 ∨ a = 6 by omega) with rfl | rfl | rfl | rfl
    · exact e9
    · exact e9
    · exact e9
    · exact e9
  · rw [hs_o (by omega)]
    simp only [rmM, Nat.zero_add, e 1 (by omega), e 2 (by omega)]
    by_cases k0 : k = 0
    · rw [if_pos k0, if_pos k0]
      by_cases i2 : i < 2
      · rw [if_pos i2, if_pos i2, e i (by omega)]
      · rw [if_neg i2, if_neg i2]
        by_cases i3 : i = 2
        · rw [if_pos i3, if_pos i3, e 3 (by rw [i3] at c; by_cases z : a = 3 <;> simp [z] at c <;> omega)]
        · rw [if_neg i3, if_neg i3]
          by_cases i4 : i = 3
          · rw [if_pos i4, if_pos i4]
          · rw [if_neg i4, if_neg i4]
            by_cases i7 : i < 7
            · rw [if_pos i7, if_pos i7, e i (by by_cases z : a = 3 <;> simp [z] at c <;> omega)]
            · rw [if_neg i7, if_neg i7]
    · rw [if_neg k0, if_neg k0]
      by_cases k1 : k = 1
      · rw [if_pos k1, if_pos k1]
        by_cases c1 : (i : Int) < h 104 1
        · rw [if_pos c1, if_pos c1, e (8 + i) (by omega)]
        · rw [if_neg c1, if_neg c1]
      · rw [if_neg k1, if_neg k1]
        by_cases d : (i : Int) < h 104 2
        · rw [if_pos d, if_pos d]
          by_cases k8 : k < 8
          · rw [if_pos k8, if_pos k8, e _ (by omega)]
          · rw [if_neg k8, if_neg k8]
        · rw [if_neg d, if_neg d]
theorem rC_off {h : HP} {k i : Nat} {v : Int} (hk : k < 10 ∨ 17 < k) : rmC (hs h k i v) 10 = rmC h 10 :=
  rmC_congr (fun j => by rw [hs_ne (by omega)]) (hs_ne (by omega)) (hs_ne (by omega)) (hs_ne (by omega)) (hs_ne (by omega)) (hs_ne (by omega)) (hs_ne (by omega))
theorem rM_off {h : HP} {k i s : Nat} {v : Int} (hk : k ≠ 104) : rmM (hs h k i v) s = rmM h s := rmM_congr (hs_ne (Ne.symm hk))
theorem WR_hd {R : HP} {a : Nat} {v : Int} (W : WR R) (ha : a = 2 ∨ a = 4 ∨ a = 5 ∨ a = 6) (hv : a = 2 → 0 ≤ v ∧ v ≤ 9) : WR (hs R 0 a v) := by
  have e : ∀ k i, k ≠ 0 ∨ i ≠ a → hs R 0 a v k i = R k i := fun k i hk => by
    simp only [hs]
    rw [if_neg (by omega)]
  obtain ⟨w0, w1, w2, w3, w4⟩ := W
  refine ⟨?_, fun r hr => ?_, fun i hi => ?_, fun i j hij hj => ?_, fun q => ?_⟩
  · rw [e 0 0 (by omega), e 0 1 (by omega), e 0 3 (by omega)]
    by_cases c : a = 2
    · subst c
      have e2 : hs R 0 2 v 0 2 = v := by simp [hs]
      rw [e2]
      have := hv rfl
      omega
    · rw [e 0 2 (by omega)]
      exact w0
  · rw [e 0 1 (by omega)] at hr
    rw [e 1 r (by omega), e 0 0 (by omega)]
    exact w1 r hr
  · rw [e 0 3 (by omega)] at hi
    rw [e 2 i (by omega), e 3 i (by omega), e 4 i (by omega), e 5 i (by omega), e 6 i (by omega), e 7 i (by omega), e 0 0 (by omega), e 0 1 (by omega)]
    exact w2 i hi
  · rw [e 0 3 (by omega)] at hj
    rw [e 2 i (by omega), e 3 i (by omega), e 2 j (by omega), e 3 j (by omega)]
    exact w3 i j hij hj
  · rw [e 0 1 (by omega)] at q
    rw [e 0 0 (by omega)]
    exact w4 q
theorem WR_cut {R : HP} {r : Nat} {v : Int} (W : WR R) (hv : 0 ≤ v ∧ v ≤ R 0 0) : WR (hs R 1 r v) := by
  have e : ∀ k i, k ≠ 1 → hs R 1 r v k i = R k i := fun k i hk => by
    simp only [hs]
    rw [if_neg (by omega)]
  obtain ⟨w0, w1, w2, w3, w4⟩ := W
  refine ⟨?_, fun r' hr => ?_, fun i hi => ?_, fun i j hij hj => ?_, fun q => ?_⟩
  · rw [e 0 0 (by omega), e 0 1 (by omega), e 0 2 (by omega), e 0 3 (by omega)]
    exact w0
  · rw [e 0 1 (by omega)] at hr
    rw [e 0 0 (by omega)]
    simp only [hs]
    split
    · exact hv
    · exact w1 r' hr
  · rw [e 0 3 (by omega)] at hi
    rw [e 2 i (by omega), e 3 i (by omega), e 4 i (by omega), e 5 i (by omega), e 6 i (by omega), e 7 i (by omega), e 0 0 (by omega), e 0 1 (by omega)]
    exact w2 i hi
  · rw [e 0 3 (by omega)] at hj
    rw [e 2 i (by omega), e 3 i (by omega), e 2 j (by omega), e 3 j (by omega)]
    exact w3 i j hij hj
  · rw [e 0 1 (by omega)] at q
    rw [e 0 0 (by omega)]
    exact w4 q
theorem WR_leg {R : HP} {t : Nat} {v : Int} (W : WR R) (hv : -1 ≤ v ∧ v ≤ 1) : WR (hs R 6 t v) := by
  have e : ∀ k i, k ≠ 6 → hs R 6 t v k i = R k i := fun k i hk => by
    simp only [hs]
    rw [if_neg (by omega)]
  obtain ⟨w0, w1, w2, w3, w4⟩ := W
  refine ⟨?_, fun r' hr => ?_, fun i hi => ?_, fun i j hij hj => ?_, fun q => ?_⟩
  · rw [e 0 0 (by omega), e 0 1 (by omega), e 0 2 (by omega), e 0 3 (by omega)]
    exact w0
  · rw [e 0 1 (by omega)] at hr
    rw [e 1 r' (by omega), e 0 0 (by omega)]
    exact w1 r' hr
  · rw [e 0 3 (by omega)] at hi
    rw [e 2 i (by omega), e 3 i (by omega), e 4 i (by omega), e 5 i (by omega), e 7 i (by omega), e 0 0 (by omega), e 0 1 (by omega)]
    obtain ⟨x1, x2, x3, x4, x5, x6⟩ := w2 i hi
    refine ⟨x1, x2, x3, x4, ?_, x6⟩
    simp only [hs]
    split
    · exact hv
    · exact x5
  · rw [e 0 3 (by omega)] at hj
    rw [e 2 i (by omega), e 3 i (by omega), e 2 j (by omega), e 3 j (by omega)]
    exact w3 i j hij hj
  · rw [e 0 1 (by omega)] at q
    rw [e 0 0 (by omega)]
    exact w4 q
