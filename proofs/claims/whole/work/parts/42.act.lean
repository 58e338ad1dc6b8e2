/-! ===== what is done to a ROOM ===== -/
def ActC (f : Nat) (h h' R' : HP) : Prop := rmC h' f = R' ∧ (∀ k, ¬ (f ≤ k ∧ k < f + 8) → h' k = h k) ∧ h' (f + 3) = h (f + 3)
def ActM (h h' R' : HP) : Prop := rmM h' 0 = R' ∧ (∀ k, k ≠ 104 → h' k = h k) ∧ (∀ i, 75 ≤ i → h' 104 i = h 104 i) ∧ h' 104 7 = h 104 7
theorem ActC_0 (f : Nat) (h : HP) : ActC f h h (rmC h f) := ⟨rfl, fun _ _ => rfl, rfl⟩
theorem ActM_0 (h : HP) : ActM h h (rmM h 0) := ⟨rfl, fun _ _ => rfl, fun _ _ => rfl, rfl⟩
theorem ActC_tr {f : Nat} {h h1 h2 R1 R2 : HP} (a : ActC f h h1 R1) (b : ActC f h1 h2 R2) : ActC f h h2 R2 :=
  ⟨b.1, fun k hk => (b.2.1 k hk).trans (a.2.1 k hk), b.2.2.trans a.2.2⟩
theorem ActM_tr {h h1 h2 R1 R2 : HP} (a : ActM h h1 R1) (b : ActM h1 h2 R2) : ActM h h2 R2 :=
  ⟨b.1, fun k hk => (b.2.1 k hk).trans (a.2.1 k hk), fun i hi => (b.2.2.1 i hi).trans (a.2.2.1 i hi), b.2.2.2.trans a.2.2.2⟩
theorem ActC_cell {f j i : Nat} {h R' : HP} {v : Int} (hj : j < 8) (h3 : j ≠ 3) (e : rmC (hs h (f + j) i v) f = R') : ActC f h (hs h (f + j) i v) R' :=
  ⟨e, fun k hk => hs_ne (by omega), hs_ne (by omega)⟩
theorem ActC_cut {f r : Nat} {h R : HP} {v : Int} (e : rmC h f = R) (hr : (r : Int) < R 0 1) : ActC f h (hs h (f + 2) r v) (hs R 1 r v) := by
  subst e; exact ActC_cell (by decide) (by decide) (rC_cut hr)
theorem ActC_yld {f l : Nat} {h R : HP} {v : Int} (e : rmC h f = R) (hl : l < 2) : ActC f h (hs h (f + 1) l v) (hs R 0 (4 + l) v) := by
  subst e; exact ActC_cell (by decide) (by decide) (rC_yld hl)
theorem ActC_ngt {f : Nat} {h R : HP} {v : Int} (e : rmC h f = R) : ActC f h (hs h f 4 v) (hs R 0 6 v) := by
  subst e; exact ActC_cell (j := 0) (by decide) (by decide) rC_ngt
theorem ActC_bend {f : Nat} {h R : HP} {v : Int} (e : rmC h f = R) : ActC f h (hs h f 2 v) (hs R 0 2 v) := by
  subst e; exact ActC_cell (j := 0) (by decide) (by decide) rC_bend
theorem ActC_col {f t : Nat} {h R : HP} {v : Int} (e : rmC h f = R) (ht : (t : Int) < R 0 3) : ActC f h (hs h (f + 4) t v) (hs R 2 t v) := by
  subst e; exact ActC_cell (by decide) (by decide) (rC_col ht)
theorem ActC_row {f t : Nat} {h R : HP} {v : Int} (e : rmC h f = R) (ht : (t : Int) < R 0 3) : ActC f h (hs h (f + 5) t v) (hs R 3 t v) := by
  subst e; exact ActC_cell (by decide) (by decide) (rC_row ht)
theorem ActC_leg {f t : Nat} {h R : HP} {v : Int} (e : rmC h f = R) (ht : (t : Int) < R 0 3) : ActC f h (hs h (f + 7) t v) (hs R 6 t v) := by
  subst e; exact ActC_cell (by decide) (by decide) (rC_leg ht)
theorem ActM_cell {a : Nat} {h R' : HP} {v : Int} (ha : a < 75) (h7 : a ≠ 7) (e : rmM (hs h 104 a v) 0 = R') : ActM h (hs h 104 a v) R' :=
  ⟨e, fun k hk => hs_ne hk, fun i hi => by simp only [hs]; rw [if_neg (by omega)], by simp only [hs]; rw [if_neg (by omega)]⟩
theorem ActM_cut {r : Nat} {h R : HP} {v : Int} (e : rmM h 0 = R) (W : WR R) (hr : (r : Int) < R 0 1) : ActM h (hs h 104 (8 + r) v) (hs R 1 r v) := by
  subst e
  have w := WM_0 W
  have : (r : Int) < h 104 1 := hr
  exact ActM_cell (by omega) (by omega) (rM_cut W hr)
theorem ActM_yld {l : Nat} {h R : HP} {v : Int} (e : rmM h 0 = R) (W : WR R) (hl : l < 2) : ActM h (hs h 104 (4 + l) v) (hs R 0 (4 + l) v) := by
  subst e
  have q := rM_hd (a := 4 + l) (v := v) W (by omega)
  rw [if_neg (by omega)] at q
  exact ActM_cell (by omega) (by omega) q
theorem ActM_ngt {h R : HP} {v : Int} (e : rmM h 0 = R) (W : WR R) : ActM h (hs h 104 6 v) (hs R 0 6 v) := by
  subst e
  exact ActM_cell (by omega) (by omega) (rM_hd (a := 6) (v := v) W (by omega))
theorem ActM_bend {h R : HP} {v : Int} (e : rmM h 0 = R) (W : WR R) : ActM h (hs h 104 3 v) (hs R 0 2 v) := by
  subst e
  exact ActM_cell (by omega) (by omega) (rM_hd (a := 3) (v := v) W (by omega))
theorem ActM_t {t j : Nat} {h R : HP} {v : Int} (e : rmM h 0 = R) (W : WR R) (ht : (t : Int) < R 0 3) (hj : j < 6) : ActM h (hs h 104 (15 + 6 * t + j) v) (hs R (2 + j) t v) := by
  subst e
  have w := WM_0 W
  have : (t : Int) < h 104 2 := ht
  exact ActM_cell (by omega) (by omega) (rM_t W ht hj)
/-- the ROOM's measures stay -/
def SameD (R R' : HP) : Prop := R' 0 0 = R 0 0 ∧ R' 0 1 = R 0 1 ∧ R' 0 3 = R 0 3
/-- a call that changes the ROOM -/
theorem ag_act {n : Nat} {h R' : HP} {ic im : Nat} {lc lm : List AV} {v : AV} {st : Int} (hR : Rel n h) (hW : WR R') (hD : SameD (rmC h 10) R')
    (b : (0 ≤ R' 0 4 ∧ R' 0 4 ≤ 3000 * (n + 1)) ∧ (0 ≤ R' 0 5 ∧ R' 0 5 ≤ 3000 * (n + 1)) ∧ (0 ≤ R' 0 6 ∧ R' 0 6 ≤ 3000 * (n + 1)))
    (hc : ∀ Q : PQ, (∀ h1, ActC 10 h h1 R' → Q (some v) (hs h1 0 0 st)) → Wp true ic 0 lc [] h Q)
    (hm : ∀ (g : HP) (Q : PQ), rmM g 0 = rmC h 10 → (∀ k, 103 ≤ k → g k = h k) → (∀ g1, ActM g g1 R' → Q (some v) (hs g1 103 2 st)) → Wp true im 0 lm [] g Q) : Agree n h ic im lc lm := by
  refine ⟨v, fun h1 => ∃ h0, ActC 10 h h0 R' ∧ h1 = hs h0 0 0 st, fun h1 e => ?_, fun Q k => hc Q (fun h1 a => k _ ⟨h1, a, rfl⟩), fun h1 Q e k => ?_⟩
  · obtain ⟨h0, a, rfl⟩ := e
    exact ⟨(hs_ne (by decide)).trans (a.2.1 1000 (by decide)), (hs_ne (by decide)).trans (a.2.1 1001 (by decide))⟩
  · obtain ⟨h0, a, rfl⟩ := e
    have s := hR.2.2.2.2.2.1
    have gk : ∀ k, 103 ≤ k → hs h0 0 0 st k = h k := fun k hk => (hs_ne (by omega)).trans (a.2.1 k (by omega))
    refine hm _ Q ((rmM_congr (gk 104 (by decide))).trans s.1.symm) gk (fun g1 d => ?_)
    have d4 : ∀ i, 75 ≤ i → g1 104 i = h 104 i := fun i hi => (d.2.2.1 i hi).trans (by rw [gk 104 (by decide)])
    have d7 : g1 104 7 = h 104 7 := d.2.2.2.trans (by rw [gk 104 (by decide)])
    have lo : ∀ k, k < 103 → k ≠ 0 → hs g1 103 2 st k = h0 k := fun k k1 k2 => by rw [hs_ne (by omega), d.2.1 k (by omega), hs_ne k2]
    refine k _ (Rel_act hR ?_ (fun i hi => ?_) (fun i hi => ?_) (fun k k1 k2 k3 k4 k5 k6 => ?_) (fun i i1 i2 => ?_) ?_) ?_ ?_
    · have e0 : hs g1 103 2 st 0 0 = st := by
        rw [hs_ne (by decide), d.2.1 0 (by decide)]; simp [hs]
      rw [e0]; simp [hs]
    · rw [hs_ne (by decide), d.2.1 0 (by decide)]
      have : hs h0 0 0 st 0 i = h0 0 i := by simp [hs, hi]
      rw [this, a.2.1 0 (by decide)]
    · have : hs g1 103 2 st 103 i = g1 103 i := by
        have : i ≠ 2 := by omega
        simp [hs, this]
      rw [this, d.2.1 103 (by decide), gk 103 (by decide)]
    · by_cases c : k < 103
      · rw [lo k c k2, a.2.1 k (by omega)]
      · rw [hs_ne k3, d.2.1 k k4, gk k (by omega)]
    · rw [hs_ne (by decide), d4 i (by omega)]
    · refine Slot_upd s ?_ ?_ hW hD.1 hD.2.1 hD.2.2 ?_ ?_ ?_ (fun k k1 k2 => ?_) (fun i i1 i2 => ?_) ?_
      · rw [← a.1]
        exact rmC_congr (fun i => by rw [lo 10 (by decide) (by decide)]) (lo _ (by decide) (by decide)) (lo _ (by decide) (by decide)) (lo _ (by decide) (by decide)) (lo _ (by decide) (by decide)) (lo _ (by decide) (by decide)) (lo _ (by decide) (by decide))
      · rw [← d.1]
        exact rmM_congr (hs_ne (by decide))
      · exact b
      · rw [lo (10 + 3) (by decide) (by decide), a.2.2]
      · exact fun i _ _ => by rw [hs_ne (by decide), d.2.1 105 (by decide), gk 105 (by decide)]
      · rw [lo k (by omega) (by omega), a.2.1 k (by omega)]
      · rw [hs_ne (by decide), d4 i (by omega)]
      · rw [hs_ne (by decide)]
        exact d7
    · rw [hs_ne (by decide), d.2.1 1000 (by decide), gk 1000 (by decide)]
    · rw [hs_ne (by decide), d.2.1 1001 (by decide), gk 1001 (by decide)]
/-- a call that refuses, or changes nothing -/
theorem ag_act0 {n : Nat} {h : HP} {ic im : Nat} {lc lm : List AV} {v : AV} {st : Int} (hR : Rel n h)
    (hc : ∀ Q : PQ, Q (some v) (hs h 0 0 st) → Wp true ic 0 lc [] h Q)
    (hm : ∀ (g : HP) (Q : PQ), rmM g 0 = rmC h 10 → (∀ k, 103 ≤ k → g k = h k) → Q (some v) (hs g 103 2 st) → Wp true im 0 lm [] g Q) : Agree n h ic im lc lm :=
  ag_q hR hc (fun Q k => hm _ Q (rm_q.trans hR.2.2.2.2.2.1.1.symm) (fun k hk => hs_ne (by omega)) k)
theorem bnd {n : Nat} {h : HP} (hR : Rel n h) : (0 ≤ rmC h 10 0 4 ∧ rmC h 10 0 4 ≤ 3000 * n) ∧ (0 ≤ rmC h 10 0 5 ∧ rmC h 10 0 5 ≤ 3000 * n) ∧ (0 ≤ rmC h 10 0 6 ∧ rmC h 10 0 6 ≤ 3000 * n) :=
  ⟨hR.2.2.2.2.2.1.2.2.1, hR.2.2.2.2.2.1.2.2.2.1, hR.2.2.2.2.2.1.2.2.2.2.1⟩
theorem mdim {g R : HP} (e : rmM g 0 = R) : g 104 0 = R 0 0 ∧ g 104 1 = R 0 1 ∧ g 104 3 = R 0 2 ∧ g 104 2 = R 0 3 ∧ g 104 4 = R 0 4 ∧ g 104 5 = R 0 5 ∧ g 104 6 = R 0 6 := by
  subst e; exact ⟨rfl, rfl, rfl, rfl, rfl, rfl, rfl⟩
theorem cdim {g R : HP} {f : Nat} (e : rmC g f = R) : g f 0 = R 0 0 ∧ g f 1 = R 0 1 ∧ g f 2 = R 0 2 ∧ g f 3 = R 0 3 ∧ g (f + 1) 0 = R 0 4 ∧ g (f + 1) 1 = R 0 5 ∧ g f 4 = R 0 6 := by
  subst e; exact ⟨rfl, rfl, rfl, rfl, rfl, rfl, rfl⟩
theorem bi_F : bi False = 0 := rfl
theorem bi_T : bi True = 1 := rfl
theorem bi_0 : bi ((0 : Int) = 0) = 1 := rfl
theorem bi_1 : bi ((1 : Int) = 0) = 0 := rfl
theorem bi_2 : bi ((2 : Int) = 0) = 0 := rfl
theorem bi_3 : bi ((3 : Int) = 0) = 0 := rfl
theorem bi_5 : bi ((5 : Int) = 0) = 0 := rfl
theorem bi_6 : bi ((6 : Int) = 0) = 0 := rfl
theorem bi_7 : bi ((7 : Int) = 0) = 0 := rfl
theorem bi_8 : bi ((8 : Int) = 0) = 0 := rfl
/-- YIELD -/
def mvd (R : HP) (l : Int) (r : Nat) (n : Int) : Int := min n (rIn R l r)
def aYield (R : HP) (l : Int) (r : Nat) (n : Int) : HP := hs (hs R 1 r (if l = 0 then R 1 r - mvd R l r n else R 1 r + mvd R l r n)) 0 (4 + l.toNat) (R 0 (4 + l.toNat) + mvd R l r n)
theorem mvd_rg {R : HP} (W : WR R) {l : Int} {r : Nat} {n : Int} (hr : (r : Int) < R 0 1) (hn : 1 ≤ n ∧ n ≤ 9) : 0 ≤ mvd R l r n ∧ mvd R l r n ≤ 9 ∧ mvd R l r n ≤ rIn R l r := by
  have a := rIn_rg W hr l
  unfold mvd
  omega
theorem aYield_WR {R : HP} (W : WR R) {l : Int} {r : Nat} {n : Int} (hl : l = 0 ∨ l = 1) (hr : (r : Int) < R 0 1) (hn : 1 ≤ n ∧ n ≤ 9) : WR (aYield R l r n) := by
  have a := mvd_rg W (l := l) hr hn
  have w := W.2.1 r hr
  have e : rIn R l r = if l = 0 then R 1 r else R 0 0 - R 1 r := rfl
  unfold aYield
  apply WR_hd
  · apply WR_cut W
    by_cases c : l = 0
    · rw [if_pos c] at e ⊢; omega
    · rw [if_neg c] at e ⊢; omega
  · omega
  · omega
theorem aYield_D (R : HP) {l : Int} {r : Nat} {n : Int} (hl : l = 0 ∨ l = 1) : SameD R (aYield R l r n) := by
  unfold aYield
  refine ⟨?_, ?_, ?_⟩
  · rw [hs_o (by omega), hs_o (by omega)]
  · rw [hs_o (by omega), hs_o (by omega)]
  · rw [hs_o (by omega), hs_o (by omega)]
theorem aYield_b (R : HP) {l : Int} {r : Nat} {n : Int} (hl : l = 0 ∨ l = 1) : (aYield R l r n) 0 (4 + l.toNat) = R 0 (4 + l.toNat) + mvd R l r n ∧ (aYield R l r n) 0 (5 - l.toNat) = R 0 (5 - l.toNat) ∧ (aYield R l r n) 0 6 = R 0 6 := by
  unfold aYield
  refine ⟨hs_s, ?_, ?_⟩
  · rw [hs_o (by omega), hs_o (by omega)]
  · rw [hs_o (by omega), hs_o (by omega)]
theorem aYield_b3 (R : HP) {l : Int} {r : Nat} {n : Int} (hl : l = 0 ∨ l = 1) : (aYield R l r n) 0 4 = R 0 4 + (if l = 0 then mvd R l r n else 0) ∧ (aYield R l r n) 0 5 = R 0 5 + (if l = 0 then 0 else mvd R l r n) ∧ (aYield R l r n) 0 6 = R 0 6 := by
  have a := aYield_b R (r := r) (n := n) hl
  rcases hl with rfl | rfl
  · exact ⟨a.1, a.2.1.trans (by rw [if_pos rfl]; exact (Int.add_zero _).symm), a.2.2⟩
  · exact ⟨a.2.1.trans (by rw [if_neg (by decide)]; exact (Int.add_zero _).symm), a.1, a.2.2⟩

theorem g_Fl_yieldBoards_0 {Q : PQ} {h : HP} {x1 : Int} {x2 : Int} {x3 : Int} {f0 : Nat} (h_f0 : isF f0)
    (o1 : WR (rmC h f0))
    (o2 : 0 ≤ x2 ∧ x2 < h f0 1)
    (o3 : 0 ≤ x2 ∧ x2 < 7)
    (k4 : ¬ x1 = 0 → Wp true i_Fl_yieldBoards 31 [vr f0, vi x1, vi x2, vi x3, vi (min x3 (rIn (rmC h f0) x1 x2.toNat))] [vi (min x3 (rIn (rmC h f0) x1 x2.toNat)), vi (h (f0 + 2) x2.toNat), vi x2, vr (f0 + 2)] h Q)
    (o5 : x1 = 0 → -2147483648 ≤ -(min x3 (rIn (rmC h f0) x1 x2.toNat)) ∧ -(min x3 (rIn (rmC h f0) x1 x2.toNat)) ≤ 2147483647)
    (k6 : x1 = 0 → Wp true i_Fl_yieldBoards 31 [vr f0, vi x1, vi x2, vi x3, vi (min x3 (rIn (rmC h f0) x1 x2.toNat))] [vi (-(min x3 (rIn (rmC h f0) x1 x2.toNat))), vi (h (f0 + 2) x2.toNat), vi x2, vr (f0 + 2)] h Q) :
    Wp true i_Fl_yieldBoards 0 [vr f0, vi x1, vi x2, vi x3, vr 9999] [] h Q := by
  refine r_iload_n (v := x3) f_55_0 rfl ?_
  refine r_aload_n (v := f0) f_55_1 rfl (F_n h_f0) ?_
  refine r_iload_n (v := x1) f_55_2 rfl ?_
  refine r_iload_n (v := x2) f_55_3 rfl ?_
  refine r_callv (as := [vr f0, vi x1, vi x2]) (st' := [vi x3]) (ls0 := [vr f0, vi x1, vi x2]) f_55_4 (by decide) rfl rfl (Nat.le_of_ble_eq_true rfl) (Nat.le_of_ble_eq_true rfl) ⟨_, _, rfl, (F_k h_f0)⟩ rfl ?_
  refine c_Fl_boardsInRow h_f0 o1 o2 ?_
  show Wp true i_Fl_yieldBoards 7 [vr f0, vi x1, vi x2, vi x3, vr 9999] [vi (rIn (rmC h f0) x1 x2.toNat), vi x3] h Q
  refine r_calls (as := [vi x3, vi (rIn (rmC h f0) x1 x2.toNat)]) (st' := []) (ls0 := [vi x3, vi (rIn (rmC h f0) x1 x2.toNat)]) f_55_7 (by decide) (by decide) rfl rfl (Nat.le_of_ble_eq_true rfl) (Nat.le_of_ble_eq_true rfl) rfl ?_
  refine c_Ma_min  ?_
  show Wp true i_Fl_yieldBoards 10 [vr f0, vi x1, vi x2, vi x3, vr 9999] [vi (min x3 (rIn (rmC h f0) x1 x2.toNat))] h Q
  refine r_istore (ls' := [vr f0, vi x1, vi x2, vi x3, vi (min x3 (rIn (rmC h f0) x1 x2.toNat))]) f_55_10 (Nat.le_of_ble_eq_true rfl) rfl ?_
  refine r_aload_n (v := f0) f_55_12 rfl (F_n h_f0) ?_
  refine r_getr (q := (f0 + 2)) f_55_13 (F_k h_f0) (by decide) (Or.inl rfl) rfl ?_
  refine r_iload_n (v := x2) f_55_16 rfl ?_
  refine r_dup2ir f_55_17 ?_
  refine r_iaload (n := 7) (v := h (f0 + 2) x2.toNat) f_55_18 (F_2 h_f0) o3 rfl ?_
  refine r_iload_n (v := x1) f_55_19 rfl ?_
  refine r_br (t := 29) f_55_20 rfl cb_ne (fun c1 => ?_) (fun c1 => ?_)
  · refine r_iload (v := min x3 (rIn (rmC h f0) x1 x2.toNat)) f_55_29 rfl ?_
    exact (k4 c1)
  · have c1 := Decidable.not_not.mp c1
    refine r_iload (v := min x3 (rIn (rmC h f0) x1 x2.toNat)) f_55_23 rfl ?_
    refine r_ineg (u := -(min x3 (rIn (rmC h f0) x1 x2.toNat))) f_55_25 rfl (o5 c1) ?_
    refine r_goto (t := 31) f_55_26 rfl ?_
    exact (k6 c1)

theorem g_Fl_yieldBoards_31 {Q : PQ} {h : HP} {x1 : Int} {x2 : Int} {x3 : Int} {x4 : Int} {s1 : Int} {s2 : Int} {s3 : Int} {f0 : Nat} (h_f0 : isF f0)
    (o1 : -2147483648 ≤ s2 + s3 ∧ s2 + s3 ≤ 2147483647)
    (o2 : 0 ≤ s1 ∧ s1 < 7)
    (o3 : 0 ≤ x1 ∧ x1 < 2)
    (o4 : -2147483648 ≤ (h (f0 + 1) x1.toNat) + x4 ∧ (h (f0 + 1) x1.toNat) + x4 ≤ 2147483647)
    (k5 : Q (some (vi x4)) (hs (hs h (f0 + 2) s1.toNat (s2 + s3)) (f0 + 1) x1.toNat ((h (f0 + 1) x1.toNat) + x4))) :
    Wp true i_Fl_yieldBoards 31 [vr f0, vi x1, vi x2, vi x3, vi x4] [vi s3, vi s2, vi s1, vr (f0 + 2)] h Q := by
  refine r_iadd (u := s2 + s3) f_55_31 rfl o1 ?_
  refine r_iastore (n := 7) f_55_32 (F_2 h_f0) o2 ?_
  refine r_aload_n (v := f0) f_55_33 rfl (F_n h_f0) ?_
  refine r_getr (q := (f0 + 1)) f_55_34 (F_k h_f0) (by decide) (Or.inl rfl) rfl ?_
  refine r_iload_n (v := x1) f_55_37 rfl ?_
  refine r_dup2ir f_55_38 ?_
  refine r_iaload (n := 2) (v := h (f0 + 1) x1.toNat) f_55_39 (F_1 h_f0) o3 (by simp [hs]) ?_
  refine r_iload (v := x4) f_55_40 rfl ?_
  refine r_iadd (u := (h (f0 + 1) x1.toNat) + x4) f_55_42 rfl o4 ?_
  refine r_iastore (n := 2) f_55_43 (F_1 h_f0) o3 ?_
  refine r_iload (v := x4) f_55_44 rfl ?_
  exact r_reti f_55_46 rfl k5

theorem g_M_yields_0 {Q : PQ} {h : HP} {x1 : Int} {x2 : Int} {x3 : Int} 
    (o1 : WR (rmM h 0))
    (o2 : 0 ≤ x2 ∧ x2 < h 104 1)
    (o3 : -2147483648 ≤ 8 + x2 ∧ 8 + x2 ≤ 2147483647)
    (o4 : 0 ≤ 8 + x2 ∧ 8 + x2 < 3000)
    (k5 : ¬ x1 = 0 → Wp true i_M_yields 34 [vr 103, vi x1, vi x2, vi x3, vi (min x3 (rIn (rmM h 0) x1 x2.toNat))] [vi (min x3 (rIn (rmM h 0) x1 x2.toNat)), vi (h 104 (8 + x2).toNat), vi (8 + x2), vr 104] h Q)
    (o6 : x1 = 0 → -2147483648 ≤ -(min x3 (rIn (rmM h 0) x1 x2.toNat)) ∧ -(min x3 (rIn (rmM h 0) x1 x2.toNat)) ≤ 2147483647)
    (k7 : x1 = 0 → Wp true i_M_yields 34 [vr 103, vi x1, vi x2, vi x3, vi (min x3 (rIn (rmM h 0) x1 x2.toNat))] [vi (-(min x3 (rIn (rmM h 0) x1 x2.toNat))), vi (h 104 (8 + x2).toNat), vi (8 + x2), vr 104] h Q) :
    Wp true i_M_yields 0 [vr 103, vi x1, vi x2, vi x3, vr 9999] [] h Q := by
  refine r_iload_n (v := x3) f_304_0 rfl ?_
  refine r_aload_n (v := 103) f_304_1 rfl (by decide) ?_
  refine r_iload_n (v := x1) f_304_2 rfl ?_
  refine r_iload_n (v := x2) f_304_3 rfl ?_
  refine r_callv (as := [vr 103, vi x1, vi x2]) (st' := [vi x3]) (ls0 := [vr 103, vi x1, vi x2]) f_304_4 (by decide) rfl rfl (Nat.le_of_ble_eq_true rfl) (Nat.le_of_ble_eq_true rfl) ⟨_, _, rfl, rfl⟩ rfl ?_
  refine c_M_hasIn o1 o2 ?_
  show Wp true i_M_yields 7 [vr 103, vi x1, vi x2, vi x3, vr 9999] [vi (rIn (rmM h 0) x1 x2.toNat), vi x3] h Q
  refine r_calls (as := [vi x3, vi (rIn (rmM h 0) x1 x2.toNat)]) (st' := []) (ls0 := [vi x3, vi (rIn (rmM h 0) x1 x2.toNat)]) f_304_7 (by decide) (by decide) rfl rfl (Nat.le_of_ble_eq_true rfl) (Nat.le_of_ble_eq_true rfl) rfl ?_
  refine c_Ma_min  ?_
  show Wp true i_M_yields 10 [vr 103, vi x1, vi x2, vi x3, vr 9999] [vi (min x3 (rIn (rmM h 0) x1 x2.toNat))] h Q
  refine r_istore (ls' := [vr 103, vi x1, vi x2, vi x3, vi (min x3 (rIn (rmM h 0) x1 x2.toNat))]) f_304_10 (Nat.le_of_ble_eq_true rfl) rfl ?_
  refine r_aload_n (v := 103) f_304_12 rfl (by decide) ?_
  refine r_getr (q := 104) f_304_13 rfl (by decide) (Or.inl rfl) rfl ?_
  refine r_bipush f_304_16 (by decide) ?_
  refine r_iload_n (v := x2) f_304_18 rfl ?_
  refine r_iadd (u := 8 + x2) f_304_19 rfl o3 ?_
  refine r_dup2ir f_304_20 ?_
  refine r_iaload (n := 3000) (v := h 104 (8 + x2).toNat) f_304_21 ⟨rfl, rfl⟩ o4 rfl ?_
  refine r_iload_n (v := x1) f_304_22 rfl ?_
  refine r_br (t := 32) f_304_23 rfl cb_ne (fun c1 => ?_) (fun c1 => ?_)
  · refine r_iload (v := min x3 (rIn (rmM h 0) x1 x2.toNat)) f_304_32 rfl ?_
    exact (k5 c1)
  · have c1 := Decidable.not_not.mp c1
    refine r_iload (v := min x3 (rIn (rmM h 0) x1 x2.toNat)) f_304_26 rfl ?_
    refine r_ineg (u := -(min x3 (rIn (rmM h 0) x1 x2.toNat))) f_304_28 rfl (o6 c1) ?_
    refine r_goto (t := 34) f_304_29 rfl ?_
    exact (k7 c1)

theorem g_M_yields_34 {Q : PQ} {h : HP} {x1 : Int} {x2 : Int} {x3 : Int} {x4 : Int} {s1 : Int} {s2 : Int} {s3 : Int} 
    (o1 : -2147483648 ≤ s2 + s3 ∧ s2 + s3 ≤ 2147483647)
    (o2 : 0 ≤ s1 ∧ s1 < 3000)
    (o3 : -2147483648 ≤ 4 + x1 ∧ 4 + x1 ≤ 2147483647)
    (o4 : 0 ≤ 4 + x1 ∧ 4 + x1 < 3000)
    (o5 : -2147483648 ≤ ((hs h 104 s1.toNat (s2 + s3)) 104 (4 + x1).toNat) + x4 ∧ ((hs h 104 s1.toNat (s2 + s3)) 104 (4 + x1).toNat) + x4 ≤ 2147483647)
    (k6 : Q (some (vi x4)) (hs (hs h 104 s1.toNat (s2 + s3)) 104 (4 + x1).toNat (((hs h 104 s1.toNat (s2 + s3)) 104 (4 + x1).toNat) + x4))) :
    Wp true i_M_yields 34 [vr 103, vi x1, vi x2, vi x3, vi x4] [vi s3, vi s2, vi s1, vr 104] h Q := by
  refine r_iadd (u := s2 + s3) f_304_34 rfl o1 ?_
  refine r_iastore (n := 3000) f_304_35 ⟨rfl, rfl⟩ o2 ?_
  refine r_aload_n (v := 103) f_304_36 rfl (by decide) ?_
  refine r_getr (q := 104) f_304_37 rfl (by decide) (Or.inl rfl) rfl ?_
  refine r_iconst f_304_40 (by decide) ?_
  refine r_iload_n (v := x1) f_304_41 rfl ?_
  refine r_iadd (u := 4 + x1) f_304_42 rfl o3 ?_
  refine r_dup2ir f_304_43 ?_
  refine r_iaload (n := 3000) (v := (hs h 104 s1.toNat (s2 + s3)) 104 (4 + x1).toNat) f_304_44 ⟨rfl, rfl⟩ o4 rfl ?_
  refine r_iload (v := x4) f_304_45 rfl ?_
  refine r_iadd (u := ((hs h 104 s1.toNat (s2 + s3)) 104 (4 + x1).toNat) + x4) f_304_47 rfl o5 ?_
  refine r_iastore (n := 3000) f_304_48 ⟨rfl, rfl⟩ o4 ?_
  refine r_iload (v := x4) f_304_49 rfl ?_
  exact r_reti f_304_51 rfl k6

theorem g_C_cede_0 {Q : PQ} {h : HP} {x1 : Int} {x2 : Int} {x3 : Int} 
    (k1 : ¬ (x1 = 0 ∨ x1 = 1) → Q (some (vi (-1))) (hs h 0 0 1))
    (k2 : (x1 = 0 ∨ x1 = 1) → ¬ (0 ≤ x2 ∧ x2 < h 10 1) → Q (some (vi (-1))) (hs h 0 0 1))
    (k3 : (x1 = 0 ∨ x1 = 1) → (0 ≤ x2 ∧ x2 < h 10 1) → (1 ≤ x3 ∧ x3 ≤ 9) → Wp true i_Fl_yieldBoards 0 [vr 10, vi x1, vi x2, vi x3, vr 9999] [] h (fun r h' => Wp true i_C_cede 44 [vr 0, vi x1, vi x2, vi x3, vr 9999] (r.toList ++ []) h' Q))
    (k4 : (x1 = 0 ∨ x1 = 1) → (0 ≤ x2 ∧ x2 < h 10 1) → ¬ (1 ≤ x3 ∧ x3 ≤ 9) → Q (some (vi (-1))) (hs h 0 0 1)) :
    Wp true i_C_cede 0 [vr 0, vi x1, vi x2, vi x3, vr 9999] [] h Q := by
  refine r_iload_n (v := x1) f_170_0 rfl ?_
  refine r_calls (as := [vi x1]) (st' := []) (ls0 := [vi x1]) f_170_1 (by decide) (by decide) rfl rfl (Nat.le_of_ble_eq_true rfl) (Nat.le_of_ble_eq_true rfl) rfl ?_
  refine c_C_isLand  ?_
  show Wp true i_C_cede 4 [vr 0, vi x1, vi x2, vi x3, vr 9999] [vi (bi (x1 = 0 ∨ x1 = 1))] h Q
  refine r_br (t := 28) f_170_4 rfl cb_bf (fun c1 => ?_) (fun c1 => ?_)
  · refine r_aload_n (v := 0) f_170_28 rfl (by decide) ?_
    refine r_iconst f_170_29 (by decide) ?_
    refine r_callv (as := [vr 0, vi 1]) (st' := []) (ls0 := [vr 0, vi 1]) f_170_30 (by decide) rfl rfl (Nat.le_of_ble_eq_true rfl) (Nat.le_of_ble_eq_true rfl) ⟨_, _, rfl, rfl⟩ rfl ?_
    refine c_C_refuse  ?_
    show Wp true i_C_cede 33 [vr 0, vi x1, vi x2, vi x3, vr 9999] [vi (-1)] (hs h 0 0 1) Q
    exact r_reti f_170_33 rfl (k1 c1)
  · have c1 := Decidable.not_not.mp c1
    refine r_aload_n (v := 0) f_170_7 rfl (by decide) ?_
    refine r_getr (q := 10) f_170_8 rfl (by decide) (Or.inl rfl) rfl ?_
    refine r_iload_n (v := x2) f_170_11 rfl ?_
    refine r_callv (as := [vr 10, vi x2]) (st' := []) (ls0 := [vr 10, vi x2]) f_170_12 (by decide) rfl rfl (Nat.le_of_ble_eq_true rfl) (Nat.le_of_ble_eq_true rfl) ⟨_, _, rfl, rfl⟩ rfl ?_
    refine c_Fl_hasRow isF_10 ?_
    show Wp true i_C_cede 15 [vr 0, vi x1, vi x2, vi x3, vr 9999] [vi (bi (0 ≤ x2 ∧ x2 < h 10 1))] h Q
    refine r_br (t := 28) f_170_15 rfl cb_bf (fun c2 => ?_) (fun c2 => ?_)
    · refine r_aload_n (v := 0) f_170_28 rfl (by decide) ?_
      refine r_iconst f_170_29 (by decide) ?_
      refine r_callv (as := [vr 0, vi 1]) (st' := []) (ls0 := [vr 0, vi 1]) f_170_30 (by decide) rfl rfl (Nat.le_of_ble_eq_true rfl) (Nat.le_of_ble_eq_true rfl) ⟨_, _, rfl, rfl⟩ rfl ?_
      refine c_C_refuse  ?_
      show Wp true i_C_cede 33 [vr 0, vi x1, vi x2, vi x3, vr 9999] [vi (-1)] (hs h 0 0 1) Q
      exact r_reti f_170_33 rfl (k2 c1 c2)
    · have c2 := Decidable.not_not.mp c2
      refine r_iload_n (v := x3) f_170_18 rfl ?_
      refine r_iconst f_170_19 (by decide) ?_
      refine r_bipush f_170_20 (by decide) ?_
      refine r_calls (as := [vi x3, vi 1, vi 9]) (st' := []) (ls0 := [vi x3, vi 1, vi 9]) f_170_22 (by decide) (by decide) rfl rfl (Nat.le_of_ble_eq_true rfl) (Nat.le_of_ble_eq_true rfl) rfl ?_
      refine c_C_within  ?_
      show Wp true i_C_cede 25 [vr 0, vi x1, vi x2, vi x3, vr 9999] [vi (bi (1 ≤ x3 ∧ x3 ≤ 9))] h Q
      refine r_br (t := 34) f_170_25 rfl cb_bt (fun c3 => ?_) (fun c3 => ?_)
      · refine r_aload_n (v := 0) f_170_34 rfl (by decide) ?_
        refine r_getr (q := 10) f_170_35 rfl (by decide) (Or.inl rfl) rfl ?_
        refine r_iload_n (v := x1) f_170_38 rfl ?_
        refine r_iload_n (v := x2) f_170_39 rfl ?_
        refine r_iload_n (v := x3) f_170_40 rfl ?_
        exact r_callv (as := [vr 10, vi x1, vi x2, vi x3]) (st' := []) (ls0 := [vr 10, vi x1, vi x2, vi x3, vr 9999]) f_170_41 (by decide) rfl rfl (Nat.le_of_ble_eq_true rfl) (Nat.le_of_ble_eq_true rfl) ⟨_, _, rfl, rfl⟩ rfl (k3 c1 c2 c3)
      · refine r_aload_n (v := 0) f_170_28 rfl (by decide) ?_
        refine r_iconst f_170_29 (by decide) ?_
        refine r_callv (as := [vr 0, vi 1]) (st' := []) (ls0 := [vr 0, vi 1]) f_170_30 (by decide) rfl rfl (Nat.le_of_ble_eq_true rfl) (Nat.le_of_ble_eq_true rfl) ⟨_, _, rfl, rfl⟩ rfl ?_
        refine c_C_refuse  ?_
        show Wp true i_C_cede 33 [vr 0, vi x1, vi x2, vi x3, vr 9999] [vi (-1)] (hs h 0 0 1) Q
        exact r_reti f_170_33 rfl (k4 c1 c2 c3)

theorem g_C_cede_44 {Q : PQ} {h : HP} {x1 : Int} {x2 : Int} {x3 : Int} {s0 : Int} 
    (k1 : s0 ≤ 0 → Q (some (vi (-1))) (hs h 0 0 7))
    (k2 : ¬ s0 ≤ 0 → Q (some (vi s0)) (hs h 0 0 0)) :
    Wp true i_C_cede 44 [vr 0, vi x1, vi x2, vi x3, vr 9999] [vi s0] h Q := by
  refine r_istore (ls' := [vr 0, vi x1, vi x2, vi x3, vi s0]) f_170_44 (Nat.le_of_ble_eq_true rfl) rfl ?_
  refine r_iload (v := s0) f_170_46 rfl ?_
  refine r_br (t := 60) f_170_48 rfl cb_le (fun c1 => ?_) (fun c1 => ?_)
  · refine r_aload_n (v := 0) f_170_60 rfl (by decide) ?_
    refine r_bipush f_170_61 (by decide) ?_
    refine r_callv (as := [vr 0, vi 7]) (st' := []) (ls0 := [vr 0, vi 7]) f_170_63 (by decide) rfl rfl (Nat.le_of_ble_eq_true rfl) (Nat.le_of_ble_eq_true rfl) ⟨_, _, rfl, rfl⟩ rfl ?_
    refine c_C_refuse  ?_
    show Wp true i_C_cede 66 [vr 0, vi x1, vi x2, vi x3, vi s0] [vi (-1)] (hs h 0 0 7) Q
    exact r_reti f_170_66 rfl (k1 c1)
  · refine r_aload_n (v := 0) f_170_51 rfl (by decide) ?_
    refine r_iload (v := s0) f_170_52 rfl ?_
    refine r_callv (as := [vr 0, vi s0]) (st' := []) (ls0 := [vr 0, vi s0]) f_170_54 (by decide) rfl rfl (Nat.le_of_ble_eq_true rfl) (Nat.le_of_ble_eq_true rfl) ⟨_, _, rfl, rfl⟩ rfl ?_
    refine c_C_answer  ?_
    show Wp true i_C_cede 57 [vr 0, vi x1, vi x2, vi x3, vi s0] [vi s0] (hs h 0 0 0) Q
    refine r_goto (t := 66) f_170_57 rfl ?_
    exact r_reti f_170_66 rfl (k2 c1)

theorem g_M_cede_0 {Q : PQ} {h : HP} {x1 : Int} {x2 : Int} {x3 : Int} 
    (k1 : ¬ (x1 = 0 ∨ x1 = 1) → Q (some (vi (-1))) (hs h 103 2 1))
    (k2 : (x1 = 0 ∨ x1 = 1) → ¬ (0 ≤ x2 ∧ x2 < h 104 1) → Q (some (vi (-1))) (hs h 103 2 1))
    (k3 : (x1 = 0 ∨ x1 = 1) → (0 ≤ x2 ∧ x2 < h 104 1) → (1 ≤ x3 ∧ x3 ≤ 9) → Wp true i_M_yields 0 [vr 103, vi x1, vi x2, vi x3, vr 9999] [] h (fun r h' => Wp true i_M_cede 40 [vr 103, vi x1, vi x2, vi x3, vr 9999] (r.toList ++ []) h' Q))
    (k4 : (x1 = 0 ∨ x1 = 1) → (0 ≤ x2 ∧ x2 < h 104 1) → ¬ (1 ≤ x3 ∧ x3 ≤ 9) → Q (some (vi (-1))) (hs h 103 2 1)) :
    Wp true i_M_cede 0 [vr 103, vi x1, vi x2, vi x3, vr 9999] [] h Q := by
  refine r_iload_n (v := x1) f_305_0 rfl ?_
  refine r_calls (as := [vi x1]) (st' := []) (ls0 := [vi x1]) f_305_1 (by decide) (by decide) rfl rfl (Nat.le_of_ble_eq_true rfl) (Nat.le_of_ble_eq_true rfl) rfl ?_
  refine c_M_isLand  ?_
  show Wp true i_M_cede 4 [vr 103, vi x1, vi x2, vi x3, vr 9999] [vi (bi (x1 = 0 ∨ x1 = 1))] h Q
  refine r_br (t := 27) f_305_4 rfl cb_bf (fun c1 => ?_) (fun c1 => ?_)
  · refine r_aload_n (v := 103) f_305_27 rfl (by decide) ?_
    refine r_iconst f_305_28 (by decide) ?_
    refine r_callv (as := [vr 103, vi 1]) (st' := []) (ls0 := [vr 103, vi 1]) f_305_29 (by decide) rfl rfl (Nat.le_of_ble_eq_true rfl) (Nat.le_of_ble_eq_true rfl) ⟨_, _, rfl, rfl⟩ rfl ?_
    refine c_M_refuse  ?_
    show Wp true i_M_cede 32 [vr 103, vi x1, vi x2, vi x3, vr 9999] [vi (-1)] (hs h 103 2 1) Q
    exact r_reti f_305_32 rfl (k1 c1)
  · have c1 := Decidable.not_not.mp c1
    refine r_aload_n (v := 103) f_305_7 rfl (by decide) ?_
    refine r_iload_n (v := x2) f_305_8 rfl ?_
    refine r_callv (as := [vr 103, vi x2]) (st' := []) (ls0 := [vr 103, vi x2]) f_305_9 (by decide) rfl rfl (Nat.le_of_ble_eq_true rfl) (Nat.le_of_ble_eq_true rfl) ⟨_, _, rfl, rfl⟩ rfl ?_
    refine c_M_isRow  ?_
    show Wp true i_M_cede 12 [vr 103, vi x1, vi x2, vi x3, vr 9999] [vi (bi (0 ≤ x2 ∧ x2 < h 104 1))] h Q
    refine r_br (t := 27) f_305_12 rfl cb_bf (fun c2 => ?_) (fun c2 => ?_)
    · refine r_aload_n (v := 103) f_305_27 rfl (by decide) ?_
      refine r_iconst f_305_28 (by decide) ?_
      refine r_callv (as := [vr 103, vi 1]) (st' := []) (ls0 := [vr 103, vi 1]) f_305_29 (by decide) rfl rfl (Nat.le_of_ble_eq_true rfl) (Nat.le_of_ble_eq_true rfl) ⟨_, _, rfl, rfl⟩ rfl ?_
      refine c_M_refuse  ?_
      show Wp true i_M_cede 32 [vr 103, vi x1, vi x2, vi x3, vr 9999] [vi (-1)] (hs h 103 2 1) Q
      exact r_reti f_305_32 rfl (k2 c1 c2)
    · have c2 := Decidable.not_not.mp c2
      refine r_iload_n (v := x3) f_305_15 rfl ?_
      refine r_i2l f_305_16 ?_
      refine r_lconst (v := 1) f_305_17 rfl ?_
      refine r_ldc2_w f_305_18 (by decide) ?_
      refine r_calls (as := [vj x3, vj 1, vj 9]) (st' := []) (ls0 := [vj x3, vr 9999, vj 1, vr 9999, vj 9, vr 9999]) f_305_21 (by decide) (by decide) rfl rfl (Nat.le_of_ble_eq_true rfl) (Nat.le_of_ble_eq_true rfl) rfl ?_
      refine c_M_isFrom  ?_
      show Wp true i_M_cede 24 [vr 103, vi x1, vi x2, vi x3, vr 9999] [vi (bi (1 ≤ x3 ∧ x3 ≤ 9))] h Q
      refine r_br (t := 33) f_305_24 rfl cb_bt (fun c3 => ?_) (fun c3 => ?_)
      · refine r_aload_n (v := 103) f_305_33 rfl (by decide) ?_
        refine r_iload_n (v := x1) f_305_34 rfl ?_
        refine r_iload_n (v := x2) f_305_35 rfl ?_
        refine r_iload_n (v := x3) f_305_36 rfl ?_
        exact r_callv (as := [vr 103, vi x1, vi x2, vi x3]) (st' := []) (ls0 := [vr 103, vi x1, vi x2, vi x3, vr 9999]) f_305_37 (by decide) rfl rfl (Nat.le_of_ble_eq_true rfl) (Nat.le_of_ble_eq_true rfl) ⟨_, _, rfl, rfl⟩ rfl (k3 c1 c2 c3)
      · refine r_aload_n (v := 103) f_305_27 rfl (by decide) ?_
        refine r_iconst f_305_28 (by decide) ?_
        refine r_callv (as := [vr 103, vi 1]) (st' := []) (ls0 := [vr 103, vi 1]) f_305_29 (by decide) rfl rfl (Nat.le_of_ble_eq_true rfl) (Nat.le_of_ble_eq_true rfl) ⟨_, _, rfl, rfl⟩ rfl ?_
        refine c_M_refuse  ?_
        show Wp true i_M_cede 32 [vr 103, vi x1, vi x2, vi x3, vr 9999] [vi (-1)] (hs h 103 2 1) Q
        exact r_reti f_305_32 rfl (k4 c1 c2 c3)

theorem g_M_cede_40 {Q : PQ} {h : HP} {x1 : Int} {x2 : Int} {x3 : Int} {s0 : Int} 
    (k1 : ¬ s0 = 0 → Q (some (vi s0)) (hs h 103 2 0))
    (k2 : s0 = 0 → Q (some (vi (-1))) (hs h 103 2 7)) :
    Wp true i_M_cede 40 [vr 103, vi x1, vi x2, vi x3, vr 9999] [vi s0] h Q := by
  refine r_istore (ls' := [vr 103, vi x1, vi x2, vi x3, vi s0]) f_305_40 (Nat.le_of_ble_eq_true rfl) rfl ?_
  refine r_iload (v := s0) f_305_42 rfl ?_
  refine r_br (t := 56) f_305_44 rfl cb_ne (fun c1 => ?_) (fun c1 => ?_)
  · refine r_aload_n (v := 103) f_305_56 rfl (by decide) ?_
    refine r_iload (v := s0) f_305_57 rfl ?_
    refine r_callv (as := [vr 103, vi s0]) (st' := []) (ls0 := [vr 103, vi s0]) f_305_59 (by decide) rfl rfl (Nat.le_of_ble_eq_true rfl) (Nat.le_of_ble_eq_true rfl) ⟨_, _, rfl, rfl⟩ rfl ?_
    refine c_M_gives  ?_
    show Wp true i_M_cede 62 [vr 103, vi x1, vi x2, vi x3, vi s0] [vi s0] (hs h 103 2 0) Q
    exact r_reti f_305_62 rfl (k1 c1)
  · have c1 := Decidable.not_not.mp c1
    refine r_aload_n (v := 103) f_305_47 rfl (by decide) ?_
    refine r_bipush f_305_48 (by decide) ?_
    refine r_callv (as := [vr 103, vi 7]) (st' := []) (ls0 := [vr 103, vi 7]) f_305_50 (by decide) rfl rfl (Nat.le_of_ble_eq_true rfl) (Nat.le_of_ble_eq_true rfl) ⟨_, _, rfl, rfl⟩ rfl ?_
    refine c_M_refuse  ?_
    show Wp true i_M_cede 53 [vr 103, vi x1, vi x2, vi x3, vi s0] [vi (-1)] (hs h 103 2 7) Q
    refine r_goto (t := 62) f_305_53 rfl ?_
    exact r_reti f_305_62 rfl (k2 c1)

theorem c_Fl_yieldBoards {Q : PQ} {h R : HP} {x1 x2 x3 : Int} {f0 : Nat} (h_f0 : isF f0) (eR : rmC h f0 = R) (W : WR R) (hl : x1 = 0 ∨ x1 = 1) (hr : 0 ≤ x2 ∧ x2 < R 0 1) (hn : 1 ≤ x3 ∧ x3 ≤ 9) (hy : 0 ≤ R 0 (4 + x1.toNat) ∧ R 0 (4 + x1.toNat) ≤ 2000000000)
    (k : ∀ h', ActC f0 h h' (aYield R x1 x2.toNat x3) → Q (some (vi (mvd R x1 x2.toNat x3))) h') : Wp true i_Fl_yieldBoards 0 [vr f0, vi x1, vi x2, vi x3, vr 9999] [] h Q := by
  have d := cdim eR
  have w := W.1
  have eR' := eR
  subst eR
  have w1 := WC_1 W (r := x2) hr.1 (by omega)
  have hrn : (x2.toNat : Int) < rmC h f0 0 1 := by omega
  have a := mvd_rg W (l := x1) hrn hn
  have hyl : rmC h f0 0 (4 + x1.toNat) = h (f0 + 1) x1.toNat := by rcases hl with rfl | rfl <;> rfl
  have fin : ∀ s3 : Int, (s3 = if x1 = 0 then - mvd (rmC h f0) x1 x2.toNat x3 else mvd (rmC h f0) x1 x2.toNat x3) → Wp true i_Fl_yieldBoards 31 [vr f0, vi x1, vi x2, vi x3, vi (mvd (rmC h f0) x1 x2.toNat x3)] [vi s3, vi (h (f0 + 2) x2.toNat), vi x2, vr (f0 + 2)] h Q := by
    intro s3 e
    have es : (if x1 = 0 then rmC h f0 1 x2.toNat - mvd (rmC h f0) x1 x2.toNat x3 else rmC h f0 1 x2.toNat + mvd (rmC h f0) x1 x2.toNat x3) = h (f0 + 2) x2.toNat + s3 := by
      rw [e, w1.2.2]; split <;> omega
    have hs3 : -9 ≤ s3 ∧ s3 ≤ 9 := by rw [e]; split <;> omega
    refine g_Fl_yieldBoards_31 h_f0 (by omega) (by omega) (by omega) (by omega) ?_
    refine k _ ?_
    have q := ActC_tr (ActC_cut (v := h (f0 + 2) x2.toNat + s3) eR' hrn) (ActC_yld (l := x1.toNat) (v := h (f0 + 1) x1.toNat + mvd (rmC h f0) x1 x2.toNat x3) (ActC_cut (v := h (f0 + 2) x2.toNat + s3) eR' hrn).1 (by omega))
    unfold aYield
    rw [es, hyl]
    exact q
  refine g_Fl_yieldBoards_0 h_f0 W (by omega) (by omega) (fun c => ?_) (fun c => ?_) (fun c => ?_)
  · exact fin _ (by rw [if_neg c]; rfl)
  · have : min x3 (rIn (rmC h f0) x1 x2.toNat) = mvd (rmC h f0) x1 x2.toNat x3 := rfl
    omega
  · exact fin _ (by rw [if_pos c]; rfl)
theorem c_M_yields {Q : PQ} {h R : HP} {x1 x2 x3 : Int} (eR : rmM h 0 = R) (W : WR R) (hl : x1 = 0 ∨ x1 = 1) (hr : 0 ≤ x2 ∧ x2 < R 0 1) (hn : 1 ≤ x3 ∧ x3 ≤ 9) (hy : 0 ≤ R 0 (4 + x1.toNat) ∧ R 0 (4 + x1.toNat) ≤ 2000000000)
    (k : ∀ h', ActM h h' (aYield R x1 x2.toNat x3) → Q (some (vi (mvd R x1 x2.toNat x3))) h') : Wp true i_M_yields 0 [vr 103, vi x1, vi x2, vi x3, vr 9999] [] h Q := by
  have d := mdim eR
  have w := W.1
  have eR' := eR
  subst eR
  have hrn : (x2.toNat : Int) < rmM h 0 0 1 := by omega
  have w1 := mR_1 (h := h) (r := x2.toNat) (by omega)
  have wv := W.2.1 x2.toNat hrn
  have a := mvd_rg W (l := x1) hrn hn
  have e8 : (8 + x2).toNat = 8 + x2.toNat := by omega
  have e4 : (4 + x1).toNat = 4 + x1.toNat := by omega
  have hyl : rmM h 0 0 (4 + x1.toNat) = h 104 (4 + x1.toNat) := by rcases hl with rfl | rfl <;> rfl
  have fin : ∀ s3 : Int, (s3 = if x1 = 0 then - mvd (rmM h 0) x1 x2.toNat x3 else mvd (rmM h 0) x1 x2.toNat x3) → Wp true i_M_yields 34 [vr 103, vi x1, vi x2, vi x3, vi (mvd (rmM h 0) x1 x2.toNat x3)] [vi s3, vi (h 104 (8 + x2).toNat), vi (8 + x2), vr 104] h Q := by
    intro s3 e
    have es : (if x1 = 0 then rmM h 0 1 x2.toNat - mvd (rmM h 0) x1 x2.toNat x3 else rmM h 0 1 x2.toNat + mvd (rmM h 0) x1 x2.toNat x3) = h 104 (8 + x2.toNat) + s3 := by
      rw [e, w1]; split <;> omega
    have hs3 : -9 ≤ s3 ∧ s3 ≤ 9 := by rw [e]; split <;> omega
    have ey : (hs h 104 (8 + x2).toNat ((h 104 (8 + x2).toNat) + s3)) 104 (4 + x1).toNat = h 104 (4 + x1.toNat) := by
      rw [hs_o (by omega), e4]
    refine g_M_yields_34 (by rw [e8]; omega) (by omega) (by omega) (by omega) (by rw [ey]; omega) ?_
    refine k _ ?_
    rw [ey, e8, e4]
    have q1 := ActM_cut (v := h 104 (8 + x2.toNat) + s3) eR' W hrn
    have W1 : WR (hs (rmM h 0) 1 x2.toNat (h 104 (8 + x2.toNat) + s3)) := WR_cut W (by
      have e : rIn (rmM h 0) x1 x2.toNat = if x1 = 0 then rmM h 0 1 x2.toNat else rmM h 0 0 0 - rmM h 0 1 x2.toNat := rfl
      rw [← es]
      by_cases c : x1 = 0
      · rw [if_pos c] at e ⊢; omega
      · rw [if_neg c] at e ⊢; omega)
    have q := ActM_tr q1 (ActM_yld (l := x1.toNat) (v := h 104 (4 + x1.toNat) + mvd (rmM h 0) x1 x2.toNat x3) q1.1 W1 (by omega))
    unfold aYield
    rw [es, hyl]
    exact q
  refine g_M_yields_0 W (by omega) (by omega) (by omega) (fun c => ?_) (fun c => ?_) (fun c => ?_)
  · exact fin _ (by rw [if_neg c]; rfl)
  · have : min x3 (rIn (rmM h 0) x1 x2.toNat) = mvd (rmM h 0) x1 x2.toNat x3 := rfl
    omega
  · exact fin _ (by rw [if_pos c]; rfl)
theorem A_cede {n : Nat} {h : HP} {x1 x2 x3 : Int} (hR : Rel n h) (hn : n ≤ 600) : Agree n h i_C_cede i_M_cede [vr 0, vi x1, vi x2, vi x3, vr 9999] [vr 103, vi x1, vi x2, vi x3, vr 9999] := by
  have s := hR.2.2.2.2.2.1
  have W := s.2.1
  have b := bnd hR
  by_cases c1 : x1 = 0 ∨ x1 = 1
  · by_cases c2 : 0 ≤ x2 ∧ x2 < h 10 1
    · by_cases c3 : 1 ≤ x3 ∧ x3 ≤ 9
      · have c2' : 0 ≤ x2 ∧ x2 < rmC h 10 0 1 := c2
        have hy : 0 ≤ rmC h 10 0 (4 + x1.toNat) ∧ rmC h 10 0 (4 + x1.toNat) ≤ 3000 * n := by
          rcases c1 with rfl | rfl
          · exact b.1
          · exact b.2.1
        have a := mvd_rg W (l := x1) (r := x2.toNat) (n := x3) (by omega) c3
        have ab := aYield_b3 (rmC h 10) (r := x2.toNat) (n := x3) c1
        refine ag_act (v := vi (if mvd (rmC h 10) x1 x2.toNat x3 ≤ 0 then -1 else mvd (rmC h 10) x1 x2.toNat x3)) (st := if mvd (rmC h 10) x1 x2.toNat x3 ≤ 0 then 7 else 0) (R' := aYield (rmC h 10) x1 x2.toNat x3) hR (aYield_WR W c1 (by omega) c3) (aYield_D _ c1) ?_ (fun Q k => ?_) (fun g Q e gk k => ?_)
        · rw [ab.1, ab.2.1, ab.2.2]
          refine ⟨?_, ?_, by omega⟩
          · split <;> omega
          · split <;> omega
        · refine g_C_cede_0 (fun c => absurd c1 c) (fun _ c => absurd c2 c) (fun _ _ _ => ?_) (fun _ _ c => absurd c3 c)
          refine c_Fl_yieldBoards isF_10 rfl W c1 c2' c3 (by omega) (fun h' q => ?_)
          refine g_C_cede_44 (fun c => ?_) (fun c => ?_)
          · have k := k h' q
            rw [if_pos c, if_pos c] at k; exact k
          · have k := k h' q
            rw [if_neg c, if_neg c] at k; exact k
        · have d := mdim e
          refine g_M_cede_0 (fun c => absurd c1 c) (fun _ c => ?_) (fun _ _ _ => ?_) (fun _ _ c => absurd c3 c)
          · omega
          · refine c_M_yields e W c1 c2' c3 (by omega) (fun h' q => ?_)
            have k := k h' q
            refine g_M_cede_40 (fun c => ?_) (fun c => ?_)
            · rw [if_neg (by omega), if_neg (by omega)] at k; exact k
            · rw [if_pos (by omega), if_pos (by omega)] at k; exact k
      · refine ag_act0 (v := vi (-1)) (st := 1) hR (fun Q k => ?_) (fun g Q e gk k => ?_)
        · exact g_C_cede_0 (fun _ => k) (fun _ _ => k) (fun _ _ c => absurd c c3) (fun _ _ _ => k)
        · exact g_M_cede_0 (fun _ => k) (fun _ _ => k) (fun _ _ c => absurd c c3) (fun _ _ _ => k)
    · refine ag_act0 (v := vi (-1)) (st := 1) hR (fun Q k => ?_) (fun g Q e gk k => ?_)
      · exact g_C_cede_0 (fun _ => k) (fun _ _ => k) (fun _ c => absurd c c2) (fun _ _ _ => k)
      · have d := mdim e
        have e1 : rmC h 10 0 1 = h 10 1 := rfl
        exact g_M_cede_0 (fun _ => k) (fun _ _ => k) (fun _ c => by omega) (fun _ _ _ => k)
  · refine ag_act0 (v := vi (-1)) (st := 1) hR (fun Q k => ?_) (fun g Q e gk k => ?_)
    · exact g_C_cede_0 (fun _ => k) (fun _ _ => k) (fun c => absurd c c1) (fun _ _ _ => k)
    · exact g_M_cede_0 (fun _ => k) (fun _ _ => k) (fun c => absurd c c1) (fun _ _ _ => k)
