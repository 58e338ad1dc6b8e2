theorem ac_idle {T R : HP} {z : Int} {e : Nat} (h : ¬ (9 ≤ T 0 e ∧ T 0 e ≤ 13)) : acR T R z e = R ∧ acM T R z e = 0 ∧ acK T R z e = 1 ∧ acD T R z e = z := by
  unfold acR acM acK acD
  refine ⟨?_, ?_, ?_, ?_⟩
  · rw [if_neg (by omega), if_neg (by omega), if_neg (by omega), if_neg (by omega), if_neg (by omega)]
  · rw [if_neg (by omega), if_neg (by omega)]
  · rw [if_neg (by omega), if_neg (by omega), if_neg (by omega), if_neg (by omega)]
  · rw [if_neg (by omega)]
theorem act_st {T R0 R : HP} {n : Int} (hT : WT T n R0) {e o : Nat} (he : (e : Int) < n) (ho : T 0 o = 16) (z : o ≠ e) (h1 : (o : Int) < nxT T R n e) (h2 : nxT T R n e ≤ T 4 o) : (o : Int) < e ∧ (e : Int) ≤ T 4 o := by
  have nx := nx_cases (T := T) (R := R) (n := n) (e := e)
  rcases nx with ⟨q, -⟩ | q | ⟨q, p⟩
  · rw [q] at h1 h2
    have := (WT_op hT h1 (Or.inl ho)).2.1
    omega
  · omega
  · have pe := WT_op hT he (Or.inr p)
    have po : (o : Int) < n := by omega
    have oo := WT_op hT po (Or.inl ho)
    have Ne := hT.2.2.2.2 e he (Or.inr p)
    have No := hT.2.2.2.2 o po (Or.inl ho)
    by_cases lt : o < e
    · omega
    · exfalso
      have x1 := No.2 ((T 4 e).toNat + 1) (by omega) (by omega)
      have x2 := Ne.2 o (by omega) (by omega)
      omega
theorem act_en {T R0 Z : HP} {n : Int} (hT : WT T n R0) {e o : Nat} (he : (e : Int) < n) (h17 : T 0 e = 17) (ho : T 0 o = 16) (z : o ≠ (T 4 e).toNat) (h1 : (o : Int) < enZ T Z e 0 0) (h2 : enZ T Z e 0 0 ≤ T 4 o) : (o : Int) < e ∧ (e : Int) ≤ T 4 o := by
  have t := WT_en hT he h17
  have z00 : enZ T Z e 0 0 = cho (agT T Z e) (T 4 e + 1) ((e : Int) + 1) := if_pos ⟨rfl, rfl⟩
  rw [z00] at h1 h2
  by_cases a : agT T Z e
  · rw [cho_t a] at h1 h2
    have po : (o : Int) < n := by omega
    have oo := WT_op hT po (Or.inl ho)
    have pb : (((T 4 e).toNat : Nat) : Int) < n := by omega
    have Nb := hT.2.2.2.2 (T 4 e).toNat pb t.2.2.2
    have No := hT.2.2.2.2 o po (Or.inl ho)
    by_cases lt : (e : Int) ≤ T 4 o
    · omega
    · exfalso
      have x1 := Nb.2 ((T 4 o).toNat + 1) (by omega) (by omega)
      have x2 := No.2 (T 4 e).toNat (by omega) (by omega)
      omega
  · rw [cho_f a] at h1 h2
    have ne : o ≠ e := fun q => by subst q; omega
    omega
theorem WT_te {T R : HP} {n : Int} (hT : WT T n R) {e : Nat} (he : (e : Int) < n) (o : 1519 ≤ T 0 e) : T 0 e ≤ 1521 ∧ (T 1 e = 0 ∨ T 1 e = 1) ∧ (T 0 e = 1521 → 0 ≤ T 2 e ∧ T 2 e < R 0 3) ∧ (T 0 e < 1521 → 0 ≤ T 2 e ∧ T 2 e ≤ 999 ∧ (T 5 e = 60 ∨ T 5 e = 61 ∨ T 5 e = 62)) := by
  have t := hT.2.2.1 e he
  rcases t with t | t | t | t | t | t | t | t | t <;> first | omega | exact ⟨t.2.1, t.2.2.1, t.2.2.2.1, t.2.2.2.2.1⟩
theorem c_Pl_holdsTrue {Q : PQ} {h T R : HP} {n : Int} {e : Nat} (eR : rmC h 10 = R) (W : WR R) (eT : tkC h 26 = T) (en : h 26 2 = n) (hT : WT T n R) (he : (e : Int) < n) (ht : 1519 ≤ T 0 e)
    (k1 : hlT T R e → Q (some (vi 1)) h) (k0 : ¬ hlT T R e → Q (some (vi 0)) h) : Wp true i_Pl_holdsTrue 0 [vr 26, vr 10, vi (e : Int), vr 9999, vr 9999] [] h Q := by
  have t := WT_te hT he ht
  have tk := tk_26 eT (e := e) (by omega)
  have wc := wd_cases (h 27 e)
  have ei : ((e : Int)).toNat = e := Int.toNat_natCast _
  have n60 := hT.2.1
  have dd := cdim eR
  have e1 := tk.2.1
  have cmp : ¬ T 0 e = 1521 → Wp true i_Pl_holdsTrue 62 [vr 26, vr 10, vi (e : Int), vi (h 28 e), vr 9999] [vi (vlT T R e)] h Q := by
    intro c
    have w2 : h 27 e = 16 ∨ h 27 e = 17 := by omega
    have e2 : T 2 e = h 30 e := by rw [tk.2.2.1, if_pos w2]
    have e5 : T 5 e = h 29 e := by rw [tk.2.2.2.2.2, if_pos w2]
    have t5 := t.2.2.2 (by omega)
    have hh : hlT T R e ↔ ((h 29 e = 60 ∧ vlT T R e < h 30 e) ∨ (h 29 e = 62 ∧ h 30 e < vlT T R e) ∨ (¬ h 29 e = 60 ∧ ¬ h 29 e = 62 ∧ vlT T R e = h 30 e)) := by
      unfold hlT
      rw [e2, e5]
      constructor
      · rintro (q | q)
        · exact absurd q.1 c
        · exact q.2
      · intro q; exact Or.inr ⟨c, q⟩
    have f29 : h (26 + 3) = h 29 := rfl
    have f30 : h (26 + 4) = h 30 := rfl
    refine g_Pl_holdsTrue_62 isT_26 isF_10 (by omega) (fun a b => k0 ?_) (fun a b => k1 ?_) (fun a b => k0 ?_) (fun a b => k1 ?_) (fun a a2 b => k0 ?_) (fun a a2 b => k1 ?_) <;> rw [hh] <;> simp only [ei, f29, f30] at * <;> omega
  by_cases c : T 0 e = 1521
  · have w2 : h 27 e = 18 := by omega
    have e2 : T 2 e = h 29 e := by rw [tk.2.2.1, if_neg (by omega)]
    have t2 := t.2.2.1 c
    have hh : hlT T R e ↔ rHo R (h 29 e).toNat = h 28 e := by
      unfold hlT
      rw [e2, e1]
      constructor
      · rintro (q | q)
        · exact q.2
        · exact absurd c q.1
      · intro q; exact Or.inl ⟨c, q⟩
    have f27 : h (26 + 1) = h 27 := rfl
    have f28 : h (26 + 2) = h 28 := rfl
    have f29 : h (26 + 3) = h 29 := rfl
    refine g_Pl_holdsTrue_0 isT_26 isF_10 (by omega) (fun q => ?_) (fun q => ?_) (fun q => ?_) (fun q => ?_) (fun q => ?_) (fun _ => by rw [eR]; exact W) (fun _ => ?_) (fun _ q => k0 ?_) (fun _ q => k1 ?_)
    · rw [ei, f27] at q; exact absurd w2 q
    · rw [ei, f27] at q; exact absurd w2 q
    · rw [ei, f27] at q; exact absurd w2 q
    · rw [ei, f27] at q; exact absurd w2 q
    · rw [ei, f27] at q; exact absurd w2 q
    · rw [ei, f29]; omega
    · rw [ei, f28, f29, eR] at q; rw [hh]; exact q
    · rw [ei, f28, f29, eR] at q; rw [hh]; exact q
  · have cm := cmp c
    have f27 : h (26 + 1) = h 27 := rfl
    have f28 : h (26 + 2) = h 28 := rfl
    have n18 : ¬ h 27 e = 18 := by omega
    refine g_Pl_holdsTrue_0 isT_26 isF_10 (by omega) (fun _ _ => by rw [eR]; exact W) (fun _ _ => by rw [ei, f28, ← e1]; exact t.2.1) (fun _ q => ?_) (fun _ _ => by rw [eR]; exact W) (fun _ q => ?_) (fun q => ?_) (fun q => ?_) (fun q => ?_) (fun q => ?_)
    · rw [ei, f27] at q
      rw [ei, f28, eR]
      have : vlT T R e = rVal R (h 28 e) (h 28 e) := by unfold vlT; rw [if_neg (by omega), e1]
      rw [← this]; exact cm
    · rw [ei, f27] at q
      rw [ei, f28, eR]
      have : vlT T R e = rBoards R (h 28 e) := by unfold vlT; rw [if_pos (by omega), e1]
      rw [← this]; exact cm
    · rw [ei, f27] at q; exact absurd q n18
    · rw [ei, f27] at q; exact absurd q n18
    · rw [ei, f27] at q; exact absurd q n18
    · rw [ei, f27] at q; exact absurd q n18
def StC (T R h : HP) (e : Nat) (h' : HP) : Prop :=
  rmC h' 10 = acR T R (h 99 4) e ∧ (∀ k, ¬ (10 ≤ k ∧ k < 18) → k ≠ 99 → k ≠ 100 → k ≠ 101 → h' k = h k) ∧ h' 13 = h 13 ∧ h' 99 1 = h 99 1 + (1 - acK T R (h 99 4) e) ∧ h' 99 2 = h 99 2 + (if T 0 e = 10 then 1 else 0) ∧ h' 99 4 = acD T R (h 99 4) e ∧ (∀ i, i ≠ 1 → i ≠ 2 → i ≠ 4 → h' 99 i = h 99 i) ∧
  h' 100 0 = h 100 0 + (if T 1 e = 0 then acM T R (h 99 4) e else 0) ∧ h' 100 1 = h 100 1 + (if T 1 e = 0 then 0 else acM T R (h 99 4) e) ∧
  ∀ i, h' 101 i = (if i = e ∧ T 0 e = 16 then (if T 4 e = (e : Int) + 1 then 1 else T 1 e) else h 101 i)
theorem StC_idle {T R h h' : HP} {e : Nat} (c : ¬ (9 ≤ T 0 e ∧ T 0 e ≤ 13)) (eR : rmC h 10 = R) (f : ∀ k, k ≠ 101 → h' k = h k) (f1 : ∀ i, h' 101 i = (if i = e ∧ T 0 e = 16 then (if T 4 e = (e : Int) + 1 then 1 else T 1 e) else h 101 i)) : StC T R h e h' := by
  obtain ⟨a1, a2, a3, a4⟩ := ac_idle (R := R) (z := h 99 4) c
  refine ⟨?_, fun k _ _ _ k4 => f k k4, f 13 (by decide), ?_, ?_, ?_, fun i _ _ _ => by rw [f 99 (by decide)], ?_, ?_, f1⟩
  · rw [a1, rC_frame isF_10 (fun k hk => f k (by omega))]; exact eR
  · rw [f 99 (by decide), a3]; omega
  · rw [f 99 (by decide), if_neg (by omega), Int.add_zero]
  · rw [f 99 (by decide), a4]
  · rw [f 100 (by decide), a2]; split <;> omega
  · rw [f 100 (by decide), a2]; split <;> omega
theorem c_Pl_afterStep {Q : PQ} {h T R : HP} {n : Int} {e : Nat} (eR : rmC h 10 = R) (W : WR R) (eT : tkC h 26 = T) (en : h 26 2 = n) (hT : WT T n R) (he : (e : Int) < n) (h17 : ¬ T 0 e = 17)
    (hz : 0 ≤ h 99 4 ∧ h 99 4 ≤ 65535) (h1 : 0 ≤ h 99 1 ∧ h 99 1 ≤ 1000000) (h2 : 0 ≤ h 99 2 ∧ h 99 2 ≤ 1000000) (hy : (0 ≤ R 0 4 ∧ R 0 4 ≤ 2000000000) ∧ (0 ≤ R 0 5 ∧ R 0 5 ≤ 2000000000)) (h6 : 0 ≤ R 0 6 ∧ R 0 6 ≤ 2000000000) (hi : ∀ i, 0 ≤ h 100 i ∧ h 100 i ≤ 1000000 ∨ 2 ≤ i)
    (kk : ∀ h', StC T R h e h' → Q (some (vi (nxT T R n e))) h') : Wp true i_Pl_afterStep 0 [vr 99, vr 26, vr 10, vi (e : Int), vr 9999, vr 9999] [] h Q := by
  have t := hT.2.2.1 e he
  have tk := tk_26 eT (e := e) (by omega)
  have wc := wd_cases (h 27 e)
  have ei : ((e : Int)).toNat = e := Int.toNat_natCast _
  have n60 := hT.2.1
  have e1 := tk.2.1
  have f27 : h (26 + 1) = h 27 := rfl
  have f28 : h (26 + 2) = h 28 := rfl
  have f31 : h (26 + 5) = h 31 := rfl
  by_cases c18 : T 0 e = 18
  · have w : h 27 e = 21 := by omega
    have k := kk h (StC_idle (by omega) eR (fun _ _ => rfl) (fun i => by rw [if_neg (by omega)]))
    rw [show nxT T R n e = n from if_pos c18] at k
    refine g_Pl_afterStep_0 isT_26 isF_10 (by omega) ?_ ?_ ?_ ?_ ?_ ?_ ?_ (fun _ => by rw [en]; exact k) <;> (intro q; rw [ei, f27] at q; exact absurd w q)
  by_cases c16 : T 0 e = 16
  · have w : h 27 e = 19 := by omega
    have e4 : T 4 e = h 31 e := by rw [tk.2.2.2.2.1, if_pos (by omega)]
    have nx : nxT T R n e = (e : Int) + 1 := by unfold nxT; rw [if_neg c18, if_neg (by omega)]
    rw [nx] at kk
    refine g_Pl_afterStep_0 isT_26 isF_10 (by omega) (fun _ q => ?_) (fun _ q => ?_) (fun _ q => ?_) (fun _ q => ?_) (fun _ _ => by omega) (fun _ _ q => ?_) (fun _ _ q => ?_) (fun q => ?_)
    · rw [ei, f27] at q; exact absurd w q
    · rw [ei, f27] at q; exact absurd w q
    · rw [ei, f27] at q; exact absurd w q
    · rw [ei, f27] at q; exact absurd w q
    · rw [ei, f31] at q
      refine g_Pl_afterStep_44 isT_26 isF_10 (fun _ => by omega) (fun _ => by omega) (fun _ => ?_) (fun z => absurd rfl z) (fun z => absurd rfl z) (fun z => absurd rfl z)
      rw [ei, f28]
      refine kk _ (StC_idle (by omega) eR (fun k hk => hs_ne hk) (fun i => ?_))
      by_cases y : i = e
      · subst y; rw [hs_s, if_pos ⟨rfl, c16⟩, if_neg (by rw [e4]; exact q), e1]
      · rw [hs_o (Or.inr y), if_neg (fun x => y x.1)]
    · rw [ei, f31] at q
      refine g_Pl_afterStep_44 isT_26 isF_10 (fun z => absurd z (by decide)) (fun z => absurd z (by decide)) (fun z => absurd z (by decide)) (fun _ => by omega) (fun _ => by omega) (fun _ => ?_)
      rw [ei]
      refine kk _ (StC_idle (by omega) eR (fun k hk => hs_ne hk) (fun i => ?_))
      by_cases y : i = e
      · subst y; rw [hs_s, if_pos ⟨rfl, c16⟩, if_pos (by rw [e4]; exact q)]
      · rw [hs_o (Or.inr y), if_neg (fun x => y x.1)]
    · rw [ei, f27] at q; omega
  by_cases ct : 1519 ≤ T 0 e
  · have tt := WT_te hT he ct
    have to := WT_op hT he (Or.inr ct)
    have w : h 27 e = 16 ∨ h 27 e = 17 ∨ h 27 e = 18 := by omega
    have e4 : T 4 e = h 31 e := by rw [tk.2.2.2.2.1, if_pos (by omega)]
    have k := kk h (StC_idle (by omega) eR (fun _ _ => rfl) (fun i => by rw [if_neg (fun x => c16 x.2)]))
    have go : ∀ x4, Wp true i_Pl_holdsTrue 0 [vr 26, vr 10, vi (e : Int), vr 9999, vr 9999] [] h (fun r h' => Wp true i_Pl_afterStep 98 [vr 99, vr 26, vr 10, vi (e : Int), vi x4, vr 9999] (r.toList ++ []) h' Q) := by
      intro x4
      refine c_Pl_holdsTrue eR W eT en hT he ct (fun y => ?_) (fun y => ?_)
      · rw [show nxT T R n e = (e : Int) + 1 by unfold nxT; rw [if_neg c18, if_pos ct, cho_t y]] at k
        exact g_Pl_afterStep_98 isT_26 isF_10 (fun z => absurd z (by decide)) (fun z => absurd z (by decide)) (fun z => absurd z (by decide)) (fun _ => by omega) (fun _ => k)
      · rw [show nxT T R n e = T 4 e + 1 by unfold nxT; rw [if_neg c18, if_pos ct, cho_f y], e4] at k
        refine g_Pl_afterStep_98 isT_26 isF_10 (fun _ => by omega) (fun _ => by rw [ei, f31]; omega) (fun _ => ?_) (fun z => absurd rfl z) (fun z => absurd rfl z)
        rw [ei, f31]; exact k
    refine g_Pl_afterStep_0 isT_26 isF_10 (by omega) (fun _ _ _ => go _) (fun _ _ _ _ => go _) (fun _ _ q2 q3 q4 => ?_) (fun _ _ _ _ _ => go _) (fun _ q => ?_) (fun _ q => ?_) (fun _ q => ?_) (fun q => ?_)
    · rw [ei, f27] at q2 q3 q4; omega
    · rw [ei, f27] at q; omega
    · rw [ei, f27] at q; omega
    · rw [ei, f27] at q; omega
    · rw [ei, f27] at q; omega
  · have c9 : 9 ≤ T 0 e ∧ T 0 e ≤ 13 := by
      rcases t with t | t | t | t | t | t | t | t | t <;> omega
    have nx : nxT T R n e = (e : Int) + 1 := by unfold nxT; rw [if_neg c18, if_neg ct]
    rw [nx] at kk
    have w : 9 ≤ h 27 e ∧ h 27 e ≤ 14 := by omega
    refine g_Pl_afterStep_0 isT_26 isF_10 (by omega) (fun _ _ q => ?_) (fun _ _ _ q => ?_) (fun _ _ _ _ _ => ?_) (fun _ _ _ _ q => ?_) (fun _ q => ?_) (fun _ q => ?_) (fun _ q => ?_) (fun q => ?_)
    · rw [ei, f27] at q; omega
    · rw [ei, f27] at q; omega
    · refine c_Pl_doStep eR W eT en hT he c9 hz h2 hy h6 hi (fun h' D => ?_)
      obtain ⟨d1, d2, d3, d4, d5, d6, d7, d8⟩ := D
      have eK : h' 99 1 = h 99 1 := d6 1 (by decide) (by decide)
      have k01 := (acR_ok hT W (h 99 4) he).2.2.2.2
      have e101 : ∀ i, h' 101 i = (if i = e ∧ T 0 e = 16 then (if T 4 e = (e : Int) + 1 then 1 else T 1 e) else h 101 i) := fun i => by rw [if_neg (fun x => c16 x.2), d2 101 (by decide) (by decide) (by decide)]
      refine g_Pl_afterStep_123 isT_26 isF_10 (fun _ => by omega) (fun q => ?_) (fun _ => by omega) (fun _ => by omega) (fun q => ?_)
      · exact kk h' ⟨d1, fun k k1 k2 k3 _ => d2 k k1 k2 k3, d3, by omega, d4, d5, fun i _ i2 i4 => d6 i i2 i4, d7, d8, e101⟩
      · refine kk _ ⟨?_, fun k k1 k2 k3 _ => by rw [hs_ne k2]; exact d2 k k1 k2 k3, by rw [hs_ne (by decide)]; exact d3, by rw [hs_s]; omega, by rw [hs_o (Or.inr (by decide))]; exact d4, by rw [hs_o (Or.inr (by decide))]; exact d5, fun i i1 i2 i4 => by rw [hs_o (Or.inr i1)]; exact d6 i i2 i4, by rw [hs_ne (by decide)]; exact d7, by rw [hs_ne (by decide)]; exact d8, fun i => by rw [hs_ne (by decide)]; exact e101 i⟩
        rw [rC_frame isF_10 (fun k hk => hs_ne (by omega))]; exact d1
    · rw [ei, f27] at q; omega
    · rw [ei, f27] at q; omega
    · rw [ei, f27] at q; omega
    · rw [ei, f27] at q; omega
    · rw [ei, f27] at q; omega
def CR (h0 T R Z h : HP) : Prop :=
  rmC h 10 = R ∧ (∀ k, ¬ (10 ≤ k ∧ k < 18) → k ≠ 99 → k ≠ 100 → k ≠ 101 → h k = h0 k) ∧ h 13 = h0 13 ∧ h 99 0 = Z 0 1 ∧ h 99 1 = Z 0 2 ∧ h 99 2 = Z 0 5 ∧ h 99 4 = Z 0 6 ∧ (∀ i, 5 ≤ i → h 99 i = h0 99 i) ∧ h 100 0 = Z 0 3 ∧ h 100 1 = Z 0 4 ∧
  ∀ o : Nat, T 0 o = 16 → (o : Int) < Z 0 0 → Z 0 0 ≤ T 4 o → h 101 o = Z 1 o + 1
theorem run_C {Q : PQ} {h0 T R0 : HP} {n x3 : Int} (eT : tkC h0 26 = T) (en : h0 26 2 = n) (hT : WT T n R0) (hb : (0 ≤ R0 0 4 ∧ R0 0 4 ≤ 1900000000) ∧ (0 ≤ R0 0 5 ∧ R0 0 5 ≤ 1900000000) ∧ (0 ≤ R0 0 6 ∧ R0 0 6 ≤ 1900000000)) :
    ∀ (k : Nat) (s : HP × HP) (h : HP) (x5 : Int), 0 ≤ x5 → x5 + k = 1204 → PI T n R0 s.1 s.2 → ndP T s.2 < k → CR h0 T s.1 s.2 h → h 99 3 = 0 →
      (∀ h', CR h0 T (runP T n k s).1 (runP T n k s).2 h' → h' 99 3 = (if n ≤ (runP T n k s).2 0 0 then 0 else 1) → Q none h') → Wp true i_Pl_run 45 [vr 99, vr 26, vr 10, vi x3, vi (s.2 0 0), vi x5] [] h Q := by
  intro k
  induction k with
  | zero =>
    intro s h x5 x0 e I nd
    have := nd_ge hT I
    omega
  | succ k ih =>
    intro s h x5 x0 ex I nd C h3 K
    have i0 := I.1
    have fr : h 26 = h0 26 := C.2.1 26 (by omega) (by decide) (by decide) (by decide)
    have en' : h 26 2 = n := by rw [fr]; exact en
    have eT' : tkC h 26 = T := (tkC_congr (fun k k1 k2 => C.2.1 k (by omega) (by omega) (by omega) (by omega))).trans eT
    by_cases at1 : n ≤ s.2 0 0
    · have hl : hlP T n s.2 := Or.inl at1
      have fin := K h (by rw [runP_h hl]; exact C) (by rw [runP_h hl, if_pos at1]; exact h3)
      exact g_Pl_run_45 isT_26 isF_10 (fun _ => fin) (fun _ _ => fin) (fun _ q => by omega) (fun _ q => by omega) (fun _ q => by omega) (fun _ q => by omega) (fun _ q => by omega)
    · obtain ⟨e, ee⟩ : ∃ e : Nat, s.2 0 0 = e := ⟨(s.2 0 0).toNat, by omega⟩
      have ei : ((e : Int)).toNat = e := Int.toNat_natCast _
      have es : (s.2 0 0).toNat = e := by omega
      have tk := tk_26 eT' (e := e) (by omega)
      have wc := wd_cases (h 27 e)
      have n60 := hT.2.1
      have f27 : h (26 + 1) = h 27 := rfl
      have f31 : h (26 + 5) = h 31 := rfl
      obtain ⟨c1, c2, c3, c4, c5, c6, c7, c8, c9, c10, c11⟩ := C
      rw [ee]
      by_cases y : T 0 e = 17
      · have w : h 27 e = 20 := by omega
        have nh : ¬ hlP T n s.2 := by
          rintro (q | q)
          · omega
          · rw [es] at q; exact q.1 y
        have tn : tnP T n s = (s.1, enZ T s.2 e) := by unfold tnP; rw [es, if_pos y]
        have I' := PI_end hT I ee (by omega) y
        have nd' := nd_end hT I ee (by omega) y
        rw [runP_s nh, tn] at K
        have t := WT_en hT (by omega) y
        have e4 : T 4 e = h 31 e := by rw [tk.2.2.2.2.1, if_pos (by omega)]
        have z0 : ∀ i, i ≠ 0 → enZ T s.2 e 0 i = s.2 0 i := fun i hi => by
          unfold enZ
          rw [if_neg (fun q => hi q.2), if_neg (fun q => by omega)]
        have z00 : enZ T s.2 e 0 0 = cho (agT T s.2 e) (T 4 e + 1) ((e : Int) + 1) := if_pos ⟨rfl, rfl⟩
        have z1 : ∀ i, i ≠ (T 4 e).toNat → enZ T s.2 e 1 i = s.2 1 i := fun i hi => by
          unfold enZ
          rw [if_neg (fun q => absurd q.1 (by decide)), if_neg (fun q => hi q.2)]
        have z11 : enZ T s.2 e 1 (T 4 e).toNat = cho (agT T s.2 e) (s.2 1 (T 4 e).toNat - 1) (s.2 1 (T 4 e).toNat) := by
          unfold enZ
          rw [if_neg (fun q => absurd q.1 (by decide)), if_pos ⟨rfl, rfl⟩]
        obtain ⟨b, eb⟩ : ∃ b : Nat, T 4 e = b := ⟨(T 4 e).toNat, by omega⟩
        have ebn : (T 4 e).toNat = b := by omega
        have tkb := tk_26 eT' (e := b) (by omega)
        have wcb := wd_cases (h 27 b)
        have next : ∀ h' : HP, (∀ k, k ≠ 101 → h' k = h k) → (∀ o : Nat, T 0 o = 16 → (o : Int) < enZ T s.2 e 0 0 → enZ T s.2 e 0 0 ≤ T 4 o → h' 101 o = enZ T s.2 e 1 o + 1) → ∀ x4, Wp true i_Pl_run 81 [vr 99, vr 26, vr 10, vi x3, vi x4, vi x5] [vi (enZ T s.2 e 0 0)] h' Q := by
          intro h' f act x4
          refine g_Pl_run_81 isT_26 isF_10 (by omega) ?_
          refine ih (s.1, enZ T s.2 e) h' (x5 + 1) (by omega) (by omega) I' (show ndP T (enZ T s.2 e) < k by omega) ⟨?_, fun k k1 k2 k3 k4 => by rw [f k k4]; exact c2 k k1 k2 k3 k4, by rw [f 13 (by decide)]; exact c3, ?_, ?_, ?_, ?_, fun i hi => by rw [f 99 (by decide)]; exact c8 i hi, ?_, ?_, act⟩ (by rw [f 99 (by decide)]; exact h3) K
          · rw [rC_frame isF_10 (fun k hk => f k (by omega))]; exact c1
          · rw [f 99 (by decide)]; show _ = enZ T s.2 e 0 1; rw [z0 1 (by decide)]; exact c4
          · rw [f 99 (by decide)]; show _ = enZ T s.2 e 0 2; rw [z0 2 (by decide)]; exact c5
          · rw [f 99 (by decide)]; show _ = enZ T s.2 e 0 5; rw [z0 5 (by decide)]; exact c6
          · rw [f 99 (by decide)]; show _ = enZ T s.2 e 0 6; rw [z0 6 (by decide)]; exact c7
          · rw [f 100 (by decide)]; show _ = enZ T s.2 e 0 3; rw [z0 3 (by decide)]; exact c9
          · rw [f 100 (by decide)]; show _ = enZ T s.2 e 0 4; rw [z0 4 (by decide)]; exact c10
        refine g_Pl_run_45 isT_26 isF_10 (fun q => by have := nd_ge hT I; omega) (fun _ q => by omega) (fun _ _ => by omega) (fun _ _ q => ?_) (fun _ _ q => ?_) (fun _ _ q => ?_) (fun _ _ _ => ?_)
        · rw [ei, f27] at q; exact absurd w q
        · rw [ei, f27] at q; exact absurd w q
        · rw [ei, f27] at q; exact absurd w q
        · have b16 : T 0 b = 16 ↔ h 27 b = 19 := by
            rw [tkb.1]; omega
          by_cases l16 : T 0 b = 16
          · have cb := c11 b l16 (by omega) (by have := t.2.2.1; rw [ebn] at this; omega)
            have ib := I.2.2.2.2.2.2.2.2.2.2 b l16 (by omega) (by have := t.2.2.1; rw [ebn] at this; omega)
            have act : ∀ o : Nat, T 0 o = 16 → (o : Int) < enZ T s.2 e 0 0 → enZ T s.2 e 0 0 ≤ T 4 o → hs h 101 b (h 101 b - 1) 101 o = enZ T s.2 e 1 o + 1 := by
              intro o ho h1 h2
              by_cases z : o = b
              · subst z
                rw [hs_s]
                by_cases a : agT T s.2 e
                · rw [← ebn, z11, cho_t a, ebn]; omega
                · rw [z00, cho_f a] at h2
                  have := t.2.2.1
                  rw [ebn] at this
                  omega
              · have a := act_en hT (by omega) y ho (by omega) h1 h2
                rw [hs_o (Or.inr z), z1 o (by omega)]
                exact c11 o ho (by omega) (by omega)
            have nx := next (hs h 101 b (h 101 b - 1)) (fun k hk => hs_ne hk) act
            refine g_Pl_afterEnd_0 isT_26 (by omega) (fun _ => by omega) (fun q => ?_) (fun _ => ?_) (fun _ q => ?_) (fun _ q => ?_) (fun _ _ => ?_) (fun _ _ _ => by omega) (fun _ _ q => ?_) (fun _ _ _ => ?_) (fun _ _ q => ?_)
            · rw [ei, f31] at q; omega
            · rw [ei, f31]; omega
            · rw [ei, f31, ← e4, ebn, f27] at q; exact absurd (b16.1 l16) q
            · rw [ei, f31, ← e4, ebn, f27] at q; exact absurd (b16.1 l16) q
            · rw [ei, f31, ← e4, ebn]; omega
            · rw [ei, f31, ← e4, ebn] at q ⊢
              have na : ¬ agT T s.2 e := fun a => by have := a.2; rw [ebn] at this; omega
              rw [z00, cho_f na] at nx
              exact nx _
            · rw [ei, f31]; omega
            · rw [ei, f31, ← e4, ebn] at q ⊢
              have na : agT T s.2 e := ⟨by rw [ebn]; exact l16, by rw [ebn]; omega⟩
              rw [z00, cho_t na] at nx
              exact nx _
          · have na : ¬ agT T s.2 e := fun a => l16 (by have := a.1; rw [ebn] at this; exact this)
            have nx := next h (fun _ _ => rfl) (fun o ho h1 h2 => by
              have ne : o ≠ (T 4 e).toNat := fun q => by rw [ebn] at q; subst q; exact l16 ho
              have a := act_en hT (by omega) y ho ne h1 h2
              rw [z1 o ne]
              exact c11 o ho (by omega) (by omega))
            rw [z00, cho_f na] at nx
            refine g_Pl_afterEnd_0 isT_26 (by omega) (fun _ => by omega) (fun q => ?_) (fun _ => ?_) (fun _ _ => by omega) (fun _ _ => nx _) (fun _ q => ?_) (fun _ _ _ => by omega) (fun _ q => ?_) (fun _ q => ?_) (fun _ q => ?_)
            · rw [ei, f31] at q; omega
            · rw [ei, f31]; omega
            · rw [ei, f31, ← e4, ebn, f27] at q; exact absurd (b16.2 q) l16
            · rw [ei, f31, ← e4, ebn, f27] at q; exact absurd (b16.2 q) l16
            · rw [ei, f31, ← e4, ebn, f27] at q; exact absurd (b16.2 q) l16
            · rw [ei, f31, ← e4, ebn, f27] at q; exact absurd (b16.2 q) l16
      · have w : ¬ h 27 e = 20 := by omega
        have d1 := I.2.2.2.1
        by_cases dn : 300 ≤ s.2 0 1
        · have hl : hlP T n s.2 := Or.inr ⟨by rw [es]; exact y, dn⟩
          rw [runP_h hl] at K
          have fin := K (hs h 99 3 1) ⟨?_, fun k k1 k2 k3 k4 => by rw [hs_ne k2]; exact c2 k k1 k2 k3 k4, by rw [hs_ne (by decide)]; exact c3, by rw [hs_o (Or.inr (by decide))]; exact c4, by rw [hs_o (Or.inr (by decide))]; exact c5, by rw [hs_o (Or.inr (by decide))]; exact c6, by rw [hs_o (Or.inr (by decide))]; exact c7, fun i hi => by rw [hs_o (Or.inr (by omega))]; exact c8 i hi, by rw [hs_ne (by decide)]; exact c9, by rw [hs_ne (by decide)]; exact c10, fun o ho h1 h2 => by rw [hs_ne (by decide)]; exact c11 o ho h1 h2⟩ (by rw [hs_s, if_neg at1])
          · refine g_Pl_run_45 isT_26 isF_10 (fun q => by have := nd_ge hT I; omega) (fun _ q => by omega) (fun _ _ => by omega) (fun _ _ _ q => by omega) (fun _ _ _ q => by omega) (fun _ _ _ _ => fin) (fun _ _ q => ?_)
            rw [ei, f27] at q; exact absurd q w
          · rw [rC_frame isF_10 (fun k hk => hs_ne (by omega))]; exact c1
        · have nh : ¬ hlP T n s.2 := by
            rintro (q | q)
            · omega
            · exact dn q.2
          have tn : tnP T n s = (acR T s.1 (s.2 0 6) e, stZ T s.1 s.2 n e) := by unfold tnP; rw [es, if_neg y]
          rw [runP_s nh, tn] at K
          have I' := PI_step hT I ee (by omega) (by omega)
          obtain ⟨-, iW, iS, i1, i2, i3, i4, i5, i6, i7, i8⟩ := I
          have hT' : WT T n s.1 := WT_congr hT iS.1 iS.2.1 iS.2.2
          refine g_Pl_run_45 isT_26 isF_10 (fun q => ?_) (fun _ q => by omega) (fun _ _ => by omega) (fun _ _ _ _ => by omega) (fun _ _ _ _ => ?_) (fun _ _ _ q => by omega) (fun _ _ q => ?_)
          · have ng : 0 ≤ ndP T s.2 := by
              have d := hT.2.2.2.1 (s.2 0 0).toNat (by omega)
              unfold ndP
              split <;> omega
            omega
          · have g99 : ∀ i, i ≠ 0 → hs h 99 0 (h 99 0 + 1) 99 i = h 99 i := fun i hi => hs_o (Or.inr hi)
            have gne : ∀ k, k ≠ 99 → hs h 99 0 (h 99 0 + 1) k = h k := fun k hk => hs_ne hk
            have e99 := g99 4 (by decide)
            refine c_Pl_afterStep (n := n) ((rC_frame isF_10 (fun k hk => gne k (by omega))).trans c1) iW ((tkC_congr (fun k k1 k2 => gne k (by omega))).trans eT') (by rw [gne 26 (by decide)]; exact en') hT' (by omega) y (by rw [e99]; omega) (by rw [g99 1 (by decide)]; omega) (by rw [g99 2 (by decide)]; omega) (by omega) (by omega) (fun i => ?_) (fun h' S => ?_)
            · rw [gne 100 (by decide)]
              by_cases i00 : i = 0
              · subst i00; left; omega
              · by_cases i01 : i = 1
                · subst i01; left; omega
                · right; omega
            · obtain ⟨q1, q2, q3, q4, q5, q6, q7, q8, q9, q10⟩ := S
              rw [e99, c7] at q1 q4 q6 q8 q9
              rw [g99 1 (by decide), c5] at q4
              rw [g99 2 (by decide), c6] at q5
              rw [gne 100 (by decide), c9] at q8
              rw [gne 100 (by decide), c10] at q9
              have q0 : h' 99 0 = s.2 0 1 + 1 := by rw [q7 0 (by decide) (by decide) (by decide), hs_s, c4]
              have nn : s.2 0 0 = (e : Int) := ee
              refine g_Pl_run_120 isT_26 isF_10 (by omega) ?_
              have C' : CR h0 T (acR T s.1 (s.2 0 6) e) (stZ T s.1 s.2 n e) h' := by
                refine ⟨q1, fun k k1 k2 k3 k4 => by rw [q2 k k1 k2 k3 k4, gne k k2]; exact c2 k k1 k2 k3 k4, by rw [q3, gne 13 (by decide)]; exact c3, q0, q4, q5, q6, fun i hi => by rw [q7 i (by omega) (by omega) (by omega), g99 i (by omega)]; exact c8 i hi, q8, q9, fun o ho h1 h2 => ?_⟩
                rw [q10 o]
                by_cases z : o = e
                · subst z
                  have e1 : stZ T s.1 s.2 n o 1 o = (if T 4 o = (o : Int) + 1 then 0 else T 1 o - 1) := by
                    show (if (1 : Nat) = 0 then _ else if (1 : Nat) = 1 ∧ o = o ∧ T 0 o = 16 then (if T 4 o = (o : Int) + 1 then 0 else T 1 o - 1) else s.2 1 o) = _
                    rw [if_neg (by decide), if_pos ⟨rfl, rfl, ho⟩]
                  rw [e1, if_pos ⟨rfl, ho⟩]
                  split <;> omega
                · have e1 : stZ T s.1 s.2 n e 1 o = s.2 1 o := by
                    show (if (1 : Nat) = 0 then _ else if (1 : Nat) = 1 ∧ o = e ∧ T 0 e = 16 then _ else s.2 1 o) = s.2 1 o
                    rw [if_neg (by decide), if_neg (fun q => z q.2.1)]
                  have a := act_st hT (by omega) ho z h1 h2
                  rw [e1, if_neg (fun x => z x.1), gne 101 (by decide)]
                  exact c11 o ho (by omega) (by omega)
              have h3' : h' 99 3 = 0 := by rw [q7 3 (by decide) (by decide) (by decide), g99 3 (by decide)]; exact h3
              by_cases x : T 0 e = 18
              · have hh : hlP T n (stZ T s.1 s.2 n e) := Or.inl (by
                  show n ≤ nxT T s.1 n e
                  unfold nxT
                  rw [if_pos x]; exact Int.le_refl _)
                rw [runP_h (s := (acR T s.1 (s.2 0 6) e, stZ T s.1 s.2 n e)) hh] at K
                have nxn : nxT T s.1 n e = n := if_pos x
                have z0 : stZ T s.1 s.2 n e 0 0 = n := nxn
                have fin := K h' C' (by show h' 99 3 = (if n ≤ stZ T s.1 s.2 n e 0 0 then 0 else 1); rw [z0, if_pos (Int.le_refl _)]; exact h3')
                have sz : h' 26 2 = n := by rw [q2 26 (by omega) (by decide) (by decide) (by decide), gne 26 (by decide)]; exact en'
                rw [nxn]
                exact g_Pl_run_45 isT_26 isF_10 (fun _ => fin) (fun _ _ => fin) (fun _ q => by omega) (fun _ q => by omega) (fun _ q => by omega) (fun _ q => by omega) (fun _ q => by omega)
              · have nd' := nd_step hT ⟨i0, iW, iS, i1, i2, i3, i4, i5, i6, i7, i8⟩ ee (by omega) y x
                exact ih (acR T s.1 (s.2 0 6) e, stZ T s.1 s.2 n e) h' (x5 + 1) (by omega) (by omega) I' (show ndP T (stZ T s.1 s.2 n e) < k by omega) C' h3' K
          · rw [ei, f27] at q; exact absurd q w
