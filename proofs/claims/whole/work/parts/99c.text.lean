/-- the reference has told a FAULT -/
def FtM (h g : HP) (fk : Int) (fp : Nat) : Prop := g 103 18 = fk ∧ g 103 17 = fp ∧ (∀ i, i ≠ 18 → i ≠ 17 → i ∉ TLM → g 103 i = h 103 i) ∧ ∀ k, k ≠ 103 → g k = h k
theorem FtM_o {h g f : HP} {L : List Nat} {fk : Int} {fp : Nat} (o : Oth 103 L h g) (hL : ∀ i, i ∈ L → i ∈ TLM) (F : FtM g f fk fp) : FtM h f fk fp := ⟨F.1, F.2.1, fun i i1 i2 i3 => (F.2.2.1 i i1 i2 i3).trans (o.2 i (fun q => i3 (hL i q))), fun k hk => (F.2.2.2 k hk).trans (o.1 k hk)⟩
theorem c_M_fails {Q : PQ} {h : HP} {B : Bt} {n s : Nat} {x1 : Int} {α : Type} (S : MS B n s h) (z0 : h 103 18 = 0) {K : α → Prop} (k : hd (fl B n s x1 : PR α) (fun fk fp => ∀ g, FtM h g fk fp → Q (some (vi 0)) g) K) : Wp true i_M_fails 0 [vr 103, vi x1] [] h Q := by
  have k : ∀ g, FtM h g (if tK B n s = 4 then 1 else x1) s → Q (some (vi 0)) g := k
  have e12 := S.2.2.2.2.1
  have e13 := S.2.2.1
  have kc := kM_c (tK B n s)
  have tr := tK_rg (B := B) (n := n) (s := s)
  refine g_M_fails_0 (fun c => absurd z0 c) (fun _ c => k _ ⟨?_, ?_, fun i i1 i2 _ => ?_, fun j hj => ?_⟩) (fun _ c => k _ ⟨?_, ?_, fun i i1 i2 _ => ?_, fun j hj => ?_⟩)
  · rw [hs_o (by decide), hs_s, if_neg (by omega)]
  · rw [hs_s, e13]
  · rw [hs_o (Or.inr i2), hs_o (Or.inr i1)]
  · rw [hs_ne hj, hs_ne hj]
  · rw [hs_o (by decide), hs_s, if_pos (by omega)]
  · rw [hs_s, e13]
  · rw [hs_o (Or.inr i2), hs_o (Or.inr i1)]
  · rw [hs_ne hj, hs_ne hj]
theorem wm_inj : ∀ i : Nat, i < 23 → ∀ j : Nat, j < 22 → (wm ((i : Int) - 1) = wmL.getD j 0 ↔ (i : Int) - 1 = j) := by decide +kernel
theorem wm_eq {B : Bt} {n s j : Nat} (hj : j < 22) : wm (tW B n s) = wmL.getD j 0 ↔ tW B n s = j := by
  have r := tW_rg (B := B) (n := n) (s := s)
  have := wm_inj (tW B n s + 1).toNat (by omega) j hj
  rw [show (((tW B n s + 1).toNat : Nat) : Int) - 1 = tW B n s by omega] at this
  exact this
theorem c_M_wantWord {Q : PQ} {h : HP} {B : Bt} {n s j : Nat} {w : Int} (S : MS B n s h) (z0 : h 103 18 = 0) (hj : j < 22) (ew : w = wmL.getD j 0) (k : hd (sWord B n s j) (fun fk fp => ∀ g, FtM h g fk fp → Q (some (vi 0)) g) (fun s' => ∀ g, MS B n s' g → Oth 103 TLM h g → Q (some (vi 1)) g)) : Wp true i_M_wantWord 0 [vr 103, vr 2001, vi w] [] h Q := by
  have we := wm_eq (B := B) (n := n) (s := s) hj
  subst ew
  unfold sWord at k
  refine g_M_wantWord_0 (c_M_inWords S (g_M_wantWord_5 (fun c => ?_) (fun c => ?_)))
  · rw [if_pos (we.mp c)] at k
    exact c_M_nx S (fun g S' o => g_M_wantWord_19 (k g S' o))
  · rw [if_neg (fun q => c (we.mpr q))] at k
    exact c_M_fails S z0 (hd_m k (fun fk fp q g f => g_M_wantWord_14 (Or.inl rfl) (q g f)) (fun a q => q))
theorem c_M_isSign {Q : PQ} {h : HP} {B : Bt} {n s : Nat} {c : Int} (S : MS B n s h) (k1 : tK B n s = 3 → B s = c → Q (some (vi 1)) h) (k0 : ¬ (tK B n s = 3 ∧ B s = c) → Q (some (vi 0)) h) : Wp true i_M_isSign 0 [vr 103, vi c] [] h Q := by
  have e12 := S.2.2.2.2.1
  have e15 := S.2.2.2.2.2.2
  have kc := kM_c (tK B n s)
  have tr := tK_rg (B := B) (n := n) (s := s)
  refine g_M_isSign_0 (fun c => k0 (by omega)) (fun c c2 => k0 (fun q => ?_)) (fun c c2 => k1 (by omega) ?_)
  · rw [e15 q.1] at c2; exact c2 q.2
  · rw [e15 (by omega)] at c2; exact c2
theorem c_M_wantEnd {Q : PQ} {h : HP} {B : Bt} {n s : Nat} (S : MS B n s h) (z0 : h 103 18 = 0) (k : hd (sEnd B n s) (fun fk fp => ∀ g, FtM h g fk fp → Q (some (vi 0)) g) (fun s' => ∀ g, MS B n s' g → Oth 103 TLM h g → Q (some (vi 1)) g)) : Wp true i_M_wantSign 0 [vr 103, vi 59] [] h Q := by
  unfold sEnd at k
  refine g_M_wantSign_0 (c_M_isSign S (fun c1 c2 => ?_) (fun c => ?_))
  · rw [if_pos ⟨c1, c2⟩] at k
    exact g_M_wantSign_5 (fun _ => c_M_nx S (fun g S' o => g_M_wantSign_18 (k g S' o))) (fun z => absurd z (by decide))
  · rw [if_neg c] at k
    exact g_M_wantSign_5 (fun z => absurd rfl z) (fun _ => c_M_fails S z0 (hd_m k (fun fk fp q g f => g_M_wantSign_13 (Or.inl rfl) (q g f)) (fun a q => q)))
theorem MS_at {B : Bt} {n s : Nat} {h : HP} {i : Nat} {v : Int} (S : MS B n s h) : MS B n s (hs h 104 i v) := by
  have e : (hs h 104 i v) 103 = h 103 := hs_ne (by decide)
  have e2 : (hs h 104 i v) 110 = h 110 := hs_ne (by decide)
  unfold MS TpM TkM
  rw [e, e2]; exact S
theorem MS_f {B : Bt} {n s : Nat} {h g : HP} (S : MS B n s h) (e1 : ∀ i, i ∈ 11 :: TLM → g 103 i = h 103 i) (e2 : g 110 = h 110) : MS B n s g := by
  unfold MS TpM TkM
  rw [e1 11 (by decide), e1 12 (by decide), e1 13 (by decide), e1 14 (by decide), e1 15 (by decide), e2]
  exact S
theorem c_M_number {Q : PQ} {h : HP} {B : Bt} {n s : Nat} {x1 lo hi : Int} (S : MS B n s h) (z0 : h 103 18 = 0) (hx : 0 ≤ x1 ∧ x1 < 3000) (k : hd (sNum B n s lo hi) (fun fk fp => ∀ g, FtM h g fk fp → Q (some (vi 0)) g) (fun a => lo ≤ a.1 → a.1 ≤ hi → ∀ g, MS B n a.2 g → Oth 103 TLM (hs h 104 x1.toNat a.1) g → Q (some (vi 1)) g)) : Wp true i_M_number 0 [vr 103, vi x1, vi lo, vi hi] [] h Q := by
  have e12 := S.2.2.2.2.1
  have e15 := S.2.2.2.2.2.1
  have kc := kM_c (tK B n s)
  have tr := tK_rg (B := B) (n := n) (s := s)
  unfold sNum at k
  refine g_M_number_0 (fun c c2 => ?_) (fun _ _ _ => hx) (fun c c2 c3 => ?_) (fun c c2 c3 => ?_) (fun c => ?_)
  · have e15 := e15 (by omega)
    rw [if_pos (by omega), if_neg (by omega)] at k
    exact c_M_fails S z0 (hd_m k (fun fk fp q g f => g_M_number_35 (Or.inl rfl) (q g f)) (fun a q => q))
  · have e15 := e15 (by omega)
    rw [if_pos (by omega), if_pos (by omega)] at k
    rw [e15]
    exact c_M_nx (MS_at S) (fun g S' o => g_M_number_50 (k (by show lo ≤ tN B n s; omega) (by show tN B n s ≤ hi; omega) g S' o))
  · have e15 := e15 (by omega)
    rw [if_pos (by omega), if_neg (by omega)] at k
    exact c_M_fails S z0 (hd_m k (fun fk fp q g f => g_M_number_35 (Or.inl rfl) (q g f)) (fun a q => q))
  · rw [if_neg (by omega)] at k
    exact c_M_fails S z0 (hd_m k (fun fk fp q g f => g_M_number_13 (Or.inl rfl) (q g f)) (fun a q => q))
