/-! ===== an int by its bits ===== -/
def btI (m : Int) (k : Nat) : Bool := (Int32.ofInt m).toBitVec.getLsbD k
theorem bI_0 (k : Nat) : btI 0 k = false := BitVec.getLsbD_zero
theorem bI_1 : ∀ k, k < 32 → btI 1 k = decide (k = 0) := by decide +kernel
theorem bI_or (x y : Int) (k : Nat) : btI (o_or x y) k = (btI x k || btI y k) := by
  unfold btI o_or
  rw [Int32.ofInt_toInt, Int32.toBitVec_or, BitVec.getLsbD_or]
theorem bI_sa : ∀ n : Nat, n < 32 → ((Int32.ofInt (n : Int) &&& 31).toBitVec.smod 32).toNat = n := by decide +kernel
theorem bI_shl {x : Int} {n k : Nat} (hn : n < 32) (hk : k < 32) : btI (o_shl x n) k = (decide (n ≤ k) && btI x (k - n)) := by
  unfold btI o_shl
  rw [Int32.ofInt_toInt, Int32.toBitVec_shiftLeft]
  show ((Int32.ofInt x).toBitVec <<< ((Int32.ofInt (n : Int) &&& 31).toBitVec.smod 32).toNat).getLsbD k = _
  rw [bI_sa n hn, BitVec.getLsbD_shiftLeft]
  rcases Nat.lt_or_ge k n with h | h
  · simp [h, Nat.not_le.mpr h]
  · simp [hk, h, Nat.not_lt.mpr h]
theorem bI_and1 (v : Int32) : (v &&& Int32.ofInt 1).toInt = (if v.toBitVec.getLsbD 0 = true then 1 else 0) := by
  have e : v &&& Int32.ofInt 1 = if v.toBitVec.getLsbD 0 = true then 1 else 0 := by
    rw [← Int32.toBitVec_inj, Int32.toBitVec_and]
    apply BitVec.eq_of_getLsbD_eq
    intro i hi
    have h1 : (Int32.ofInt 1).toBitVec = 1#32 := rfl
    rw [BitVec.getLsbD_and, h1]
    by_cases h : v.toBitVec.getLsbD 0 = true
    · rw [if_pos h]
      show _ = (1#32).getLsbD i
      cases i with
      | zero => simp at h; simp [h]
      | succ i => simp
    · rw [if_neg h]
      show _ = (0#32).getLsbD i
      cases i with
      | zero => simp at h; simp [h]
      | succ i => simp
  rw [e]
  split <;> rfl
theorem bI_a1 {x : Int} : o_and x 1 = if btI x 0 = true then 1 else 0 := by
  unfold o_and btI
  rw [bI_and1]
theorem bI_shr {x : Int} {n : Nat} (hn : n < 32) : o_and (o_shr x n) 1 = if btI x n = true then 1 else 0 := by
  unfold o_and o_shr btI
  rw [Int32.ofInt_toInt, bI_and1, Int32.toBitVec_shiftRight]
  show (if (((Int32.ofInt x).toBitVec.sshiftRight ((Int32.ofInt (n : Int) &&& 31).toBitVec.smod 32).toNat).getLsbD 0) = true then (1 : Int) else 0) = _
  rw [bI_sa n hn, BitVec.getLsbD_sshiftRight]
  simp [hn]
theorem bI_set {x : Int} {a k : Nat} (ha : a < 32) (hk : k < 32) : btI (o_or x (o_shl 1 a)) k = (btI x k || decide (k = a)) := by
  rw [bI_or, bI_shl ha hk]
  congr 1
  by_cases h : k = a
  · subst h
    rw [Nat.sub_self, bI_1 0 (by decide)]
    rw [decide_eq_true (Nat.le_refl k), decide_eq_true rfl, decide_eq_true rfl]
    rfl
  · by_cases h2 : a ≤ k
    · rw [bI_1 (k - a) (by omega), decide_eq_true h2, decide_eq_false (show ¬ k - a = 0 by omega), decide_eq_false h]
      rfl
    · rw [decide_eq_false h2, decide_eq_false h]
      rfl
/-! ===== the text of a ROOM, as numbers ===== -/
def rClr : HP := fun k i => if k = 0 ∧ i = 2 then 9 else 0
def rLay (R : HP) (w d : Int) : HP := fun k i => if k = 0 ∧ i = 0 then w else if k = 0 ∧ i = 1 then d else if k = 1 then (if (i : Int) < d then w / 2 else 0) else R k i
def rAdd (R : HP) (c r w0 w1 l b : Int) : HP := fun k i => if k = 0 ∧ i = 3 then R 0 3 + 1 else if 2 ≤ k ∧ (i : Int) = R 0 3 then (if k = 2 then c else if k = 3 then r else if k = 4 then w0 else if k = 5 then w1 else if k = 6 then l else if k = 7 then b else 0) else R k i
abbrev NT : Type := Nat → List Nat
def nAdd (N : NT) (m : Nat) (l : List Nat) : NT := fun i => if i = m then l else N i
def sSize (B : Bt) (n s : Nat) (R : HP) : PR (Nat × HP) := bd (sNum B n (nx B n s) 1 9) fun a => bd (sWord B n a.2 1) fun s2 => bd (sNum B n s2 1 7) fun b => bd (sEnd B n b.2) fun s4 => .inr (s4, rLay R a.1 b.1)
def sCuts (B : Bt) (n : Nat) : Nat → Nat → Nat → HP → PR (Nat × HP)
  | 0, _, s, R => .inr (s, R)
  | d + 1, r, s, R => bd (sNum B n s 0 (R 0 0)) fun a => sCuts B n d (r + 1) a.2 (hs R 1 r a.1)
def sLine (B : Bt) (n s : Nat) (R : HP) : PR (Nat × HP) := bd (sCuts B n (R 0 1).toNat 0 (nx B n s) R) fun a => bd (sEnd B n a.1) fun s' => .inr (s', a.2)
def sBends (B : Bt) (n s : Nat) (R : HP) : PR (Nat × HP) := bd (sNum B n (nx B n s) 0 9) fun a => bd (sEnd B n a.2) fun s' => .inr (s', hs R 0 2 a.1)
def sRow (B : Bt) (n s : Nat) (R : HP) (c : Int) : PR (Int × Nat) := bd (sNum B n s 0 (R 0 1 - 1)) fun a => if rOn R c a.1 = -1 then .inr a else fl B n s 5
def sLeg (B : Bt) (n s : Nat) : PR (Int × Nat) := if tW B n s = 7 then sNum B n (nx B n s) 0 1 else .inr (-1, s)
def sBig (B : Bt) (n s : Nat) : Int × Nat := if tW B n s = 8 then (1, nx B n s) else (0, s)
def sRest (B : Bt) (n s : Nat) (R : HP) : PR (Nat × HP) :=
  bd (sWord B n s 5) fun s2 => bd (sNum B n s2 0 (R 0 0 - 1)) fun c => bd (sRow B n c.2 R c.1) fun r => bd (sWord B n r.2 6) fun s5 =>
  bd (sNum B n s5 0 99) fun w0 => bd (sNum B n w0.2 0 99) fun w1 => bd (sLeg B n w1.2) fun l => bd (sEnd B n (sBig B n l.2).2) fun s9 =>
  .inr (s9, rAdd R c.1 r.1 w0.1 w1.1 l.1 (sBig B n l.2).1)
def sThing (B : Bt) (n s : Nat) (R : HP) (N : NT) : PR (Nat × HP × NT) :=
  if isNm B n (nx B n s) then (if fnd (fun i => N i = tL B n (nx B n s)) (R 0 3).toNat 0 = -1 then
    (bd (sRest B n (nx B n (nx B n s)) R) fun a => .inr (a.1, a.2, nAdd N (R 0 3).toNat (tL B n (nx B n s)))) else fl B n (nx B n s) 3) else fl B n (nx B n s) 2
abbrev RS : Type := Nat × HP × NT × Int × Int
def sPart (B : Bt) (n s : Nat) (R : HP) (N : NT) (l b : Int) : PR RS :=
  if R 0 1 ≤ 0 then (if tW B n s = 0 then bd (sSize B n s R) (fun a => .inr (a.1, a.2, N, l, b)) else fl B n s 2)
  else if tW B n s = 0 then fl B n s 5
  else if tW B n s = 2 then (if l = 0 then bd (sLine B n s R) (fun a => .inr (a.1, a.2, N, 1, b)) else fl B n s 5)
  else if tW B n s = 3 then (if b = 0 then bd (sBends B n s R) (fun a => .inr (a.1, a.2, N, l, 1)) else fl B n s 5)
  else if tW B n s = 4 then (if R 0 3 < 10 then bd (sThing B n s R N) (fun a => .inr (a.1, a.2.1, a.2.2, l, b)) else fl B n s 6)
  else fl B n s 2
def sRoom (B : Bt) (n : Nat) : Nat → RS → PR (HP × NT)
  | 0, a => .inr (a.2.1, a.2.2.1)
  | d + 1, a => if n ≤ a.1 then .inr (a.2.1, a.2.2.1) else bd (sPart B n a.1 a.2.1 a.2.2.1 a.2.2.2.1 a.2.2.2.2) (fun a' => sRoom B n d a')
abbrev tt2 : Int → Nat → Prop := fun fk _ => 1 ≤ fk
theorem fl_t {B : Bt} {n s : Nat} {α : Type} {k : Int} {K : α → Prop} (hk : 1 ≤ k) : hd (fl B n s k : PR α) tt2 K := by
  show 1 ≤ (if tK B n s = 4 then 1 else k)
  split <;> omega
theorem nx_m {B : Bt} {n s : Nat} (h : s ≤ n) : s ≤ nx B n s ∧ nx B n s ≤ n := by
  have := nx_b (B := B) h
  have := tE_b (B := B) h
  omega
theorem sNum_b {B : Bt} {n s : Nat} {lo hi : Int} (h : s ≤ n) : hd (sNum B n s lo hi) tt2 (fun a => s ≤ a.2 ∧ a.2 ≤ n ∧ lo ≤ a.1 ∧ a.1 ≤ hi) := by
  unfold sNum
  split
  · split
    · rename_i c
      have := nx_m (B := B) h
      exact ⟨this.1, this.2, c.1, c.2⟩
    · exact fl_t (by decide)
  · exact fl_t (by decide)
theorem sWord_b {B : Bt} {n s : Nat} {w : Int} (h : s ≤ n) : hd (sWord B n s w) tt2 (fun a => s ≤ a ∧ a ≤ n) := by
  unfold sWord
  split
  · exact nx_m h
  · exact fl_t (by decide)
theorem sEnd_b {B : Bt} {n s : Nat} (h : s ≤ n) : hd (sEnd B n s) tt2 (fun a => s ≤ a ∧ a ≤ n) := by
  unfold sEnd
  split
  · exact nx_m h
  · exact fl_t (by decide)
theorem sRow_b {B : Bt} {n s : Nat} {R : HP} {c : Int} (h : s ≤ n) : hd (sRow B n s R c) tt2 (fun a => s ≤ a.2 ∧ a.2 ≤ n ∧ 0 ≤ a.1 ∧ a.1 ≤ R 0 1 - 1 ∧ rOn R c a.1 = -1) := by
  unfold sRow
  refine hd_bd.mpr (hd_m (sNum_b h) (fun _ _ q => q) (fun a ha => ?_))
  by_cases q : rOn R c a.1 = -1
  · rw [if_pos q]; exact ⟨ha.1, ha.2.1, ha.2.2.1, ha.2.2.2, q⟩
  · rw [if_neg q]; exact fl_t (by decide)
theorem sLeg_b {B : Bt} {n s : Nat} (h : s ≤ n) : hd (sLeg B n s) tt2 (fun a => s ≤ a.2 ∧ a.2 ≤ n ∧ -1 ≤ a.1 ∧ a.1 ≤ 1) := by
  unfold sLeg
  split
  · have := nx_m (B := B) h
    exact hd_m (sNum_b this.2) (fun _ _ q => q) (fun a ha => by omega)
  · exact ⟨Nat.le_refl _, h, by show (-1 : Int) ≤ -1; decide, by show (-1 : Int) ≤ 1; decide⟩
theorem sBig_b {B : Bt} {n s : Nat} (h : s ≤ n) : s ≤ (sBig B n s).2 ∧ (sBig B n s).2 ≤ n ∧ ((sBig B n s).1 = 0 ∨ (sBig B n s).1 = 1) := by
  unfold sBig
  split
  · have := nx_m (B := B) h
    exact ⟨this.1, this.2, Or.inr rfl⟩
  · exact ⟨Nat.le_refl _, h, Or.inl rfl⟩
def okN (l : List Nat) : Prop := 1 ≤ l.length ∧ l.length ≤ 8 ∧ ∀ c ∈ l, 1 ≤ c ∧ c ≤ 26
/-- a draft that may become the ROOM -/
def WS (R : HP) (N : NT) : Prop := WR R ∧ (∀ i : Nat, (i : Int) < R 0 3 → okN (N i)) ∧ R 0 4 = 0 ∧ R 0 5 = 0 ∧ R 0 6 = 0
theorem isNm_ok {B : Bt} {n s : Nat} (h : isNm B n s) : okN (tL B n s) := by
  have a := tK_w.mp h.1
  have b := tE_lt (B := B) a.1
  have c := h.2.2
  refine ⟨?_, ?_, ltr_rg _ (fun p h1 h2 => tW_all h.1 p h1 (by omega))⟩
  · unfold tL; rw [ltr_len]; omega
  · unfold tL; rw [ltr_len]; omega
theorem WR_clr : WR rClr := by
  refine ⟨by decide, fun r h => ?_, fun i h => ?_, fun i j h h1 => ?_, fun _ => rfl⟩
  · have h : (r : Int) < 0 := h
    omega
  · have h : (i : Int) < 0 := h
    omega
  · have h1 : (j : Int) < 0 := h1
    omega
theorem WS_clr {N : NT} : WS rClr N := by
  refine ⟨WR_clr, fun i h => ?_, rfl, rfl, rfl⟩
  have h : (i : Int) < 0 := h
  omega
theorem WS_lay {R : HP} {N : NT} {w d : Int} (W : WS R N) (c0 : R 0 1 ≤ 0) (hw : 1 ≤ w ∧ w ≤ 9) (hd : 1 ≤ d ∧ d ≤ 7) : WS (rLay R w d) N := by
  have a := W.1.1
  have t0 : ¬ 0 < R 0 3 := by
    intro q
    have := (W.1.2.2.1 0 (by omega)).2.1
    omega
  have e0 : rLay R w d 0 0 = w := rfl
  have e1 : rLay R w d 0 1 = d := rfl
  have e2 : rLay R w d 0 2 = R 0 2 := rfl
  have e3 : rLay R w d 0 3 = R 0 3 := rfl
  refine ⟨⟨?_, fun r h => ?_, fun i h => ?_, fun i j h h1 => ?_, fun q => ?_⟩, fun i h => ?_, W.2.2.1, W.2.2.2.1, W.2.2.2.2⟩
  · rw [e0, e1, e2, e3]; omega
  · rw [e1] at h
    have : rLay R w d 1 r = w / 2 := by
      show (if (r : Int) < d then w / 2 else 0) = _
      rw [if_pos h]
    rw [this, e0]; omega
  · rw [e3] at h; omega
  · rw [e3] at h1; omega
  · rw [e1] at q; omega
  · rw [e3] at h; omega
theorem WS_cut {R : HP} {N : NT} {r : Nat} {v : Int} (W : WS R N) (hv : 0 ≤ v ∧ v ≤ R 0 0) : WS (hs R 1 r v) N := by
  have e : ∀ i, hs R 1 r v 0 i = R 0 i := fun i => hs_o (Or.inl (by decide))
  have e2 : ∀ k i, 2 ≤ k → hs R 1 r v k i = R k i := fun k i hk => hs_o (Or.inl (by omega))
  obtain ⟨⟨a1, a2, a3, a4, a5⟩, b, c⟩ := W
  refine ⟨⟨?_, fun q h => ?_, fun i h => ?_, fun i j h h1 => ?_, fun q => ?_⟩, fun i h => ?_, ?_, ?_, ?_⟩
  · rw [e, e, e, e]; exact a1
  · rw [e] at h
    rw [e]
    by_cases z : q = r
    · rw [z, hs_s]; exact hv
    · rw [hs_o (Or.inr z)]; exact a2 q h
  · rw [e] at h
    rw [e, e, e2 2 i (by decide), e2 3 i (by decide), e2 4 i (by decide), e2 5 i (by decide), e2 6 i (by decide), e2 7 i (by decide)]; exact a3 i h
  · rw [e] at h1
    rw [e2 2 i (by decide), e2 3 i (by decide), e2 2 j (by decide), e2 3 j (by decide)]; exact a4 i j h h1
  · rw [e] at q
    rw [e]; exact a5 q
  · rw [e] at h; exact b i h
  · rw [e]; exact c.1
  · rw [e]; exact c.2.1
  · rw [e]; exact c.2.2
theorem WS_bend {R : HP} {N : NT} {v : Int} (W : WS R N) (hv : 0 ≤ v ∧ v ≤ 9) : WS (hs R 0 2 v) N := by
  have e : ∀ k i, k ≠ 0 ∨ i ≠ 2 → hs R 0 2 v k i = R k i := fun k i h => hs_o h
  obtain ⟨⟨a1, a2, a3, a4, a5⟩, b, c⟩ := W
  refine ⟨⟨?_, fun q h => ?_, fun i h => ?_, fun i j h h1 => ?_, fun q => ?_⟩, fun i h => ?_, ?_, ?_, ?_⟩
  · rw [e 0 0 (by decide), e 0 1 (by decide), hs_s, e 0 3 (by decide)]; omega
  · rw [e 0 1 (by decide)] at h
    rw [e 0 0 (by decide), e 1 q (by omega)]; exact a2 q h
  · rw [e 0 3 (by decide)] at h
    rw [e 0 0 (by decide), e 0 1 (by decide), e 2 i (by omega), e 3 i (by omega), e 4 i (by omega), e 5 i (by omega), e 6 i (by omega), e 7 i (by omega)]; exact a3 i h
  · rw [e 0 3 (by decide)] at h1
    rw [e 2 i (by omega), e 3 i (by omega), e 2 j (by omega), e 3 j (by omega)]; exact a4 i j h h1
  · rw [e 0 1 (by decide)] at q
    rw [e 0 0 (by decide)]; exact a5 q
  · rw [e 0 3 (by decide)] at h; exact b i h
  · rw [e 0 4 (by decide)]; exact c.1
  · rw [e 0 5 (by decide)]; exact c.2.1
  · rw [e 0 6 (by decide)]; exact c.2.2
theorem rOn_nn {R : HP} {c r : Int} (h : rOn R c r = -1) : ∀ i : Nat, (i : Int) < R 0 3 → ¬ (R 2 i = c ∧ R 3 i = r) := by
  intro i hi
  rcases fnd_at (p := fun i => R 2 i = c ∧ R 3 i = r) (R 0 3).toNat 0 with ⟨-, b⟩ | ⟨j, a, -⟩
  · exact b i (by omega) (by omega)
  · unfold rOn at h
    rw [a] at h
    omega
theorem WS_add {R : HP} {N : NT} {c r w0 w1 l b : Int} {L : List Nat} (W : WS R N) (h10 : R 0 3 < 10) (hc : 0 ≤ c ∧ c ≤ R 0 0 - 1) (hr : 0 ≤ r ∧ r ≤ R 0 1 - 1) (h0 : 0 ≤ w0 ∧ w0 ≤ 99) (h1 : 0 ≤ w1 ∧ w1 ≤ 99) (hl : -1 ≤ l ∧ l ≤ 1) (hb : b = 0 ∨ b = 1) (on : rOn R c r = -1) (hL : okN L) : WS (rAdd R c r w0 w1 l b) (nAdd N (R 0 3).toNat L) := by
  obtain ⟨⟨a1, a2, a3, a4, a5⟩, n1, z⟩ := W
  have no := rOn_nn on
  have e0 : rAdd R c r w0 w1 l b 0 0 = R 0 0 := rfl
  have e1 : rAdd R c r w0 w1 l b 0 1 = R 0 1 := rfl
  have e2 : rAdd R c r w0 w1 l b 0 2 = R 0 2 := rfl
  have e3 : rAdd R c r w0 w1 l b 0 3 = R 0 3 + 1 := rfl
  have el : ∀ q, rAdd R c r w0 w1 l b 1 q = R 1 q := fun q => by simp [rAdd]
  have eo : ∀ (k i : Nat), 2 ≤ k → (i : Int) ≠ R 0 3 → rAdd R c r w0 w1 l b k i = R k i := fun k i hk hi => by
    unfold rAdd
    rw [if_neg (by omega), if_neg (by omega)]
  have ei : ∀ i : Nat, (i : Int) = R 0 3 → rAdd R c r w0 w1 l b 2 i = c ∧ rAdd R c r w0 w1 l b 3 i = r ∧ rAdd R c r w0 w1 l b 4 i = w0 ∧ rAdd R c r w0 w1 l b 5 i = w1 ∧ rAdd R c r w0 w1 l b 6 i = l ∧ rAdd R c r w0 w1 l b 7 i = b := by
    intro i hi
    unfold rAdd
    simp [hi]
  refine ⟨⟨?_, fun q h => ?_, fun i h => ?_, fun i j h h1 => ?_, fun q => ?_⟩, fun i h => ?_, z.1, z.2.1, z.2.2⟩
  · rw [e0, e1, e2, e3]; omega
  · rw [e1] at h
    rw [el, e0]; exact a2 q h
  · rw [e3] at h
    rw [e0, e1]
    by_cases y : (i : Int) = R 0 3
    · obtain ⟨f1, f2, f3, f4, f5, f6⟩ := ei i y
      rw [f1, f2, f3, f4, f5, f6]
      exact ⟨by omega, by omega, h0, h1, hl, hb⟩
    · rw [eo 2 i (by decide) y, eo 3 i (by decide) y, eo 4 i (by decide) y, eo 5 i (by decide) y, eo 6 i (by decide) y, eo 7 i (by decide) y]
      exact a3 i (by omega)
  · rw [e3] at h1
    rw [eo 2 i (by decide) (by omega), eo 3 i (by decide) (by omega)]
    by_cases y : (j : Int) = R 0 3
    · obtain ⟨f1, f2, -⟩ := ei j y
      rw [f1, f2]
      exact no i (by omega)
    · rw [eo 2 j (by decide) y, eo 3 j (by decide) y]
      exact a4 i j h (by omega)
  · rw [e1] at q
    rw [e0]; exact a5 q
  · rw [e3] at h
    unfold nAdd
    by_cases y : i = (R 0 3).toNat
    · rw [if_pos y]; exact hL
    · rw [if_neg y]; exact n1 i (by omega)
theorem sCuts_b {B : Bt} {n : Nat} {N : NT} : ∀ (d r s : Nat) (R : HP), s ≤ n → WS R N → hd (sCuts B n d r s R) tt2 (fun a => s ≤ a.1 ∧ a.1 ≤ n ∧ WS a.2 N ∧ a.2 0 1 = R 0 1)
  | 0, r, s, R, h, W => ⟨Nat.le_refl _, h, W, rfl⟩
  | d + 1, r, s, R, h, W => by
    rw [sCuts]
    refine hd_bd.mpr (hd_m (sNum_b h) (fun _ _ q => q) (fun a ha => ?_))
    exact hd_m (sCuts_b d (r + 1) a.2 _ ha.2.1 (WS_cut W ha.2.2)) (fun _ _ q => q) (fun a' h' => ⟨by omega, h'.2.1, h'.2.2.1, h'.2.2.2.trans (hs_o (Or.inl (by decide)))⟩)
theorem sPart_b {B : Bt} {n s : Nat} {R : HP} {N : NT} {l b : Int} (h : s < n) (W : WS R N) (hl : l = 0 ∨ l = 1) (hb : b = 0 ∨ b = 1) : hd (sPart B n s R N l b) tt2 (fun a => (s < a.1 ∧ a.1 ≤ n) ∧ WS a.2.1 a.2.2.1 ∧ (a.2.2.2.1 = 0 ∨ a.2.2.2.1 = 1) ∧ (a.2.2.2.2 = 0 ∨ a.2.2.2.2 = 1) ∧ 0 < a.2.1 0 1) := by
  have x := nx_lt (B := B) h
  unfold sPart
  split
  · rename_i c0
    split
    · refine hd_bd.mpr ?_
      unfold sSize
      refine hd_bd.mpr (hd_m (sNum_b x.2) (fun _ _ q => q) (fun a ha => ?_))
      refine hd_bd.mpr (hd_m (sWord_b ha.2.1) (fun _ _ q => q) (fun s2 h2 => ?_))
      refine hd_bd.mpr (hd_m (sNum_b h2.2) (fun _ _ q => q) (fun d hd' => ?_))
      refine hd_bd.mpr (hd_m (sEnd_b hd'.2.1) (fun _ _ q => q) (fun s4 h4 => ?_))
      exact ⟨⟨by show s < s4; omega, h4.2⟩, WS_lay W c0 ha.2.2 hd'.2.2, hl, hb, by show 0 < d.1; omega⟩
    · exact fl_t (by decide)
  · split
    · exact fl_t (by decide)
    · split
      · split
        · refine hd_bd.mpr ?_
          unfold sLine
          refine hd_bd.mpr (hd_m (sCuts_b _ _ _ _ x.2 W) (fun _ _ q => q) (fun a ha => ?_))
          refine hd_bd.mpr (hd_m (sEnd_b ha.2.1) (fun _ _ q => q) (fun s4 h4 => ?_))
          exact ⟨⟨by show s < s4; omega, h4.2⟩, ha.2.2.1, Or.inr rfl, hb, by show 0 < a.2 0 1; omega⟩
        · exact fl_t (by decide)
      · split
        · split
          · refine hd_bd.mpr ?_
            unfold sBends
            refine hd_bd.mpr (hd_m (sNum_b x.2) (fun _ _ q => q) (fun a ha => ?_))
            refine hd_bd.mpr (hd_m (sEnd_b ha.2.1) (fun _ _ q => q) (fun s4 h4 => ?_))
            exact ⟨⟨by show s < s4; omega, h4.2⟩, WS_bend W ha.2.2, hl, Or.inr rfl, by show 0 < R 0 1; omega⟩
          · exact fl_t (by decide)
        · split
          · split
            · rename_i c10
              refine hd_bd.mpr ?_
              unfold sThing
              split
              · rename_i nm
                have y := nx_m (B := B) x.2
                split
                · refine hd_bd.mpr ?_
                  unfold sRest
                  refine hd_bd.mpr (hd_m (sWord_b y.2) (fun _ _ q => q) (fun s2 h2 => ?_))
                  refine hd_bd.mpr (hd_m (sNum_b h2.2) (fun _ _ q => q) (fun c hc => ?_))
                  refine hd_bd.mpr (hd_m (sRow_b hc.2.1) (fun _ _ q => q) (fun r hr => ?_))
                  refine hd_bd.mpr (hd_m (sWord_b hr.2.1) (fun _ _ q => q) (fun s5 h5 => ?_))
                  refine hd_bd.mpr (hd_m (sNum_b h5.2) (fun _ _ q => q) (fun w0 h0 => ?_))
                  refine hd_bd.mpr (hd_m (sNum_b h0.2.1) (fun _ _ q => q) (fun w1 h1 => ?_))
                  refine hd_bd.mpr (hd_m (sLeg_b h1.2.1) (fun _ _ q => q) (fun g hg => ?_))
                  have bg := sBig_b (B := B) hg.2.1
                  refine hd_bd.mpr (hd_m (sEnd_b bg.2.1) (fun _ _ q => q) (fun s9 h9 => ?_))
                  exact ⟨⟨by show s < s9; omega, h9.2⟩, WS_add W c10 hc.2.2 ⟨hr.2.2.1, hr.2.2.2.1⟩ h0.2.2 h1.2.2 hg.2.2 bg.2.2 hr.2.2.2.2 (isNm_ok nm), hl, hb, by show 0 < R 0 1; omega⟩
                · exact fl_t (by decide)
              · exact fl_t (by decide)
            · exact fl_t (by decide)
          · exact fl_t (by decide)
theorem sRoom_b {B : Bt} {n : Nat} : ∀ (d : Nat) (a : RS), WS a.2.1 a.2.2.1 → (a.2.2.2.1 = 0 ∨ a.2.2.2.1 = 1) → (a.2.2.2.2 = 0 ∨ a.2.2.2.2 = 1) → hd (sRoom B n d a) tt2 (fun a => WS a.1 a.2)
  | 0, a, W, _, _ => W
  | d + 1, a, W, hl, hb => by
    rw [sRoom]
    by_cases c : n ≤ a.1
    · rw [if_pos c]; exact W
    · rw [if_neg c]
      refine hd_bd.mpr (hd_m (sPart_b (by omega) W hl hb) (fun _ _ q => q) (fun a' h' => ?_))
      exact sRoom_b d a' h'.2.1 h'.2.2.1 h'.2.2.2.1
