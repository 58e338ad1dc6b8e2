theorem c_Bo_canCut {Q : PQ} {h R : HP} {f1 r l b : Nat} (h_f1 : isF f1) (eR : rmC h f1 = R) (W : WR R) (T : TB R h (fun _ _ => True)) (hr : (r : Int) < R 0 1) (hl : (l : Int) ≤ R 0 0) (hb : b ≤ 63)
    (k1 : posS R b r l → Q (some (vi 1)) h) (k0 : ¬ posS R b r l → Q (some (vi 0)) h) : Wp true i_Bo_canCut 0 [vr 92, vr f1, vi (r : Int), vi (l : Int), vi (b : Int), vr 9999, vr 9999, vr 9999, vr 9999, vr 9999] [] h Q := by
  have w := W.1
  have dd := cdim eR
  refine g_Bo_canCut_0 h_f1 (by omega) (by omega) (by omega) (by omega) (by omega) (by omega) (by omega) (by omega) ?_
  rw [show ((r : Int) * 10 + (l : Int)).toNat = 10 * r + l by omega, show ((h f1 1 - 1 - (r : Int)) * 10 + (l : Int)).toNat = 10 * ((R 0 1).toNat - 1 - r) + l by omega]
  have ta : ∀ n : Nat, n ≤ 63 → (o_land (o_lushr (h 96 (10 * r + l)) (n : Int)) 1 = 1 ↔ 0 < upL R r l n) := by
    intro n hn
    rw [bL_ush (by omega), ← T r l n hr hl hn trivial]
    by_cases z : btL (h 96 (10 * r + l)) n = true
    · rw [if_pos z]; exact ⟨fun _ => z, fun _ => rfl⟩
    · rw [if_neg z]; exact ⟨fun q => absurd q (by decide), fun q => absurd q z⟩
  have tb : ∀ n : Nat, n ≤ 63 → (o_land (o_lushr (h 96 (10 * ((R 0 1).toNat - 1 - r) + l)) (n : Int)) 1 = 1 ↔ 0 < upL R ((R 0 1).toNat - 1 - r) l n) := by
    intro n hn
    rw [bL_ush (by omega), ← T ((R 0 1).toNat - 1 - r) l n (by omega) hl hn trivial]
    by_cases z : btL (h 96 (10 * ((R 0 1).toNat - 1 - r) + l)) n = true
    · rw [if_pos z]; exact ⟨fun _ => z, fun _ => rfl⟩
    · rw [if_neg z]; exact ⟨fun q => absurd q (by decide), fun q => absurd q z⟩
  have key : ∀ (d n : Nat), (n + d = b + 1 ∨ (d = 0 ∧ b < n)) → l ≤ n → (∀ n' : Nat, l ≤ n' → n' < n → ¬ (0 < upL R r l n' ∧ 0 < upL R ((R 0 1).toNat - 1 - r) l (b - n' + l))) → Wp true i_Bo_canCut 36 [vr 92, vr f1, vi (r : Int), vi (l : Int), vi (b : Int), vj (h 96 (10 * r + l)), vr 9999, vj (h 96 (10 * ((R 0 1).toNat - 1 - r) + l)), vr 9999, vi (n : Int)] [] h Q := by
    intro d
    induction d with
    | zero =>
      intro n e ln I
      have fin := k0 (fun ⟨n', a1, a2, a3, a4⟩ => I n' a1 (by omega) ⟨a3, a4⟩)
      exact g_Bo_canCut_36 h_f1 (fun _ => fin) (fun q => by omega) (fun q => by omega) (fun q => by omega) (fun q => by omega) (fun q => by omega) (fun q => by omega) (fun q => by omega)
    | succ d ih =>
      intro n e ln I
      have nx : ¬ (0 < upL R r l n ∧ 0 < upL R ((R 0 1).toNat - 1 - r) l (b - n + l)) → Wp true i_Bo_canCut 36 [vr 92, vr f1, vi (r : Int), vi (l : Int), vi (b : Int), vj (h 96 (10 * r + l)), vr 9999, vj (h 96 (10 * ((R 0 1).toNat - 1 - r) + l)), vr 9999, vi ((n : Int) + 1)] [] h Q := by
        intro q
        refine ih (n + 1) (by omega) (by omega) (fun n' a1 a2 => ?_)
        by_cases z : n' = n
        · subst z; exact q
        · exact I n' a1 (by omega)
      have ic : (b : Int) - (n : Int) + (l : Int) = ((b - n + l : Nat) : Int) := by omega
      refine g_Bo_canCut_36 h_f1 (fun q => by omega) (fun _ _ => by omega) (fun _ q => ?_) (fun _ _ => by omega) (fun _ _ => by omega) (fun _ _ _ => by omega) (fun _ q1 q2 => ?_) (fun _ q1 q2 => ?_)
      · rw [ta n (by omega)] at q; exact nx (fun z => q z.1)
      · rw [ic, tb (b - n + l) (by omega)] at q2; exact nx (fun z => q2 z.2)
      · rw [ta n (by omega)] at q1
        rw [ic, tb (b - n + l) (by omega)] at q2
        exact k1 ⟨n, ln, by omega, q1, q2⟩
  by_cases z : l ≤ b
  · exact key (b + 1 - l) l (Or.inl (by omega)) (Nat.le_refl _) (fun n' a1 a2 => by omega)
  · exact key 0 l (Or.inr ⟨rfl, by omega⟩) (Nat.le_refl _) (fun n' a1 a2 => by omega)
theorem c_Bo_leastCut {Q : PQ} {h R : HP} {f1 r b : Nat} (h_f1 : isF f1) (eR : rmC h f1 = R) (W : WR R) (T : TB R h (fun _ _ => True)) (hr : (r : Int) < R 0 1) (hb : b ≤ 63)
    (k1 : ∀ l : Nat, (l : Int) ≤ R 0 0 → posS R b r l → (∀ j, j < l → ¬ posS R b r j) → Q (some (vi (l : Int))) h) (k0 : (∀ l : Nat, (l : Int) ≤ R 0 0 → ¬ posS R b r l) → Q (some (vi (-1))) h) : Wp true i_Bo_leastCut 0 [vr 92, vr f1, vi (r : Int), vi (b : Int), vr 9999] [] h Q := by
  have w := W.1
  have dd := cdim eR
  have key : ∀ (d l : Nat), (l : Int) + d = R 0 0 + 1 → (∀ j, j < l → ¬ posS R b r j) → Wp true i_Bo_leastCut 3 [vr 92, vr f1, vi (r : Int), vi (b : Int), vi (l : Int)] [] h Q := by
    intro d
    induction d with
    | zero =>
      intro l e I
      have fin := k0 (fun l' h' => I l' (by omega))
      exact g_Bo_leastCut_3 h_f1 (fun _ => fin) (fun q => by omega)
    | succ d ih =>
      intro l e I
      refine g_Bo_leastCut_3 h_f1 (fun q => by omega) (fun _ => ?_)
      refine c_Bo_canCut h_f1 eR W T hr (by omega) hb (fun q => ?_) (fun q => ?_)
      · exact g_Bo_leastCut_21 h_f1 (fun z => absurd z (by decide)) (fun z => absurd z (by decide)) (fun _ => k1 l (by omega) q I)
      · refine g_Bo_leastCut_21 h_f1 (fun _ => by omega) (fun _ => ?_) (fun z => absurd rfl z)
        refine ih (l + 1) (by omega) (fun j hj => ?_)
        by_cases z : j = l
        · subst z; exact q
        · exact I j (by omega)
  exact g_Bo_leastCut_0 h_f1 (key ((R 0 0).toNat + 1) 0 (by omega) (fun j hj => by omega))
theorem suN_b {R : HP} (W : WR R) {b i : Nat} (h : 0 < liN R b) (hi : (i : Int) ≤ R 0 1) : 0 ≤ sumF (fun r => (lsC R b r : Int)) i 0 ∧ sumF (fun r => (lsC R b r : Int)) i 0 ≤ 9 * i := by
  have w := W.1
  have := sumF_rng (f := fun r => (lsC R b r : Int)) (a := 0) (b := 9) i 0 (fun j _ hj => by
    have := (lsC_ok W (b := b) (r := j) (by omega) h).1
    omega)
  omega
theorem c_Bo_boardsInAll {Q : PQ} {h R : HP} {f1 b : Nat} (h_f1 : isF f1) (eR : rmC h f1 = R) (W : WR R) (hb : b ≤ 63)
    (kk : ∀ h', (∀ k, k ≠ 96 → h' k = h k) → Q (some (vi (suN R b))) h') : Wp true i_Bo_boardsInAll 0 [vr 92, vr f1, vi (b : Int), vr 9999, vr 9999, vr 9999] [] h Q := by
  have w := W.1
  have d0 := cdim eR
  have fl : f1 + 8 ≤ 82 := by unfold isF at h_f1; omega
  have fr : ∀ h1 : HP, (∀ k, k ≠ 96 → h1 k = h k) → rmC h1 f1 = R := fun h1 f => (rC_frame h_f1 (fun k hk => f k (by omega))).trans eR
  by_cases hd : 0 < R 0 1
  · refine g_Bo_boardsInAll_0 h_f1 (fun _ => ?_) (fun q => by omega) (fun q => by omega)
    refine c_Bo_findSums h_f1 eR W (fun h' f T => g_Bo_boardsInAll_22 h_f1 ?_)
    have e' := fr h' f
    have dd := cdim e'
    have k := kk h' f
    by_cases hp : 0 < liN R b
    · have es : suN R b = sumF (fun r => (lsC R b r : Int)) (R 0 1).toNat 0 := cho_t hp
      have rows : ∀ (d i : Nat) (j5 : AV), (i : Int) + d = R 0 1 → Wp true i_Bo_boardsInAll 27 [vr 92, vr f1, vi (b : Int), vi (sumF (fun r => (lsC R b r : Int)) i 0), vi (i : Int), j5] [] h' Q := by
        intro d
        induction d with
        | zero =>
          intro i j5 e
          rw [es, show (R 0 1).toNat = i by omega] at k
          exact g_Bo_boardsInAll_27 h_f1 (fun _ => k) (fun q => by omega)
        | succ d ih =>
          intro i j5 e
          have L := lsC_ok W (b := b) (r := i) (by omega) hp
          have sb := suN_b W (b := b) (i := i) hp (by omega)
          have nx := fun j5 => ih (i + 1) j5 (by omega)
          rw [sumF_last] at nx
          refine g_Bo_boardsInAll_27 h_f1 (fun q => by omega) (fun _ => ?_)
          refine c_Bo_leastCut h_f1 e' W T (by omega) hb (fun l l1 l2 l3 => ?_) (fun q => absurd L.2.1 (q _ L.1))
          have el : l = lsC R b i := by
            rcases Nat.lt_trichotomy l (lsC R b i) with z | z | z
            · exact absurd l2 (L.2.2 l z)
            · exact z
            · exact absurd L.2.1 (l3 _ z)
          subst el
          exact g_Bo_boardsInAll_44 h_f1 (fun _ => by omega) (fun _ => by omega) (fun _ => nx _) (fun q => by omega)
      exact rows (R 0 1).toNat 0 _ (by omega)
    · have es : suN R b = -1 := cho_f hp
      rw [es] at k
      refine g_Bo_boardsInAll_27 h_f1 (fun q => by omega) (fun _ => ?_)
      refine c_Bo_leastCut (r := 0) h_f1 e' W T hd hb (fun l l1 l2 l3 => absurd l2 (pos_no W hd hp l1)) (fun _ => ?_)
      exact g_Bo_boardsInAll_44 h_f1 (fun q => absurd q (by decide)) (fun q => absurd q (by decide)) (fun q => absurd q (by decide)) (fun _ => k)
  · have k := kk h (fun _ _ => rfl)
    have el : liN R b = if b = 0 then 1 else 0 := if_neg hd
    refine g_Bo_boardsInAll_0 h_f1 (fun q => by omega) (fun _ q => ?_) (fun _ q => ?_)
    · rw [if_neg (by omega)] at el
      rw [show suN R b = -1 from cho_f (by omega)] at k
      exact k
    · rw [if_pos (by omega)] at el
      rw [show suN R b = sumF (fun r => (lsC R b r : Int)) (R 0 1).toNat 0 from cho_t (by omega), show (R 0 1).toNat = 0 by omega] at k
      exact k
theorem c_M_isPossible {Q : PQ} {g R : HP} {r l b : Nat} (W : WR R) (T : TU R g (fun _ _ _ => True)) (hr : (r : Int) < R 0 1) (hl : (l : Int) ≤ R 0 0) (hb : b ≤ 63)
    (k1 : posS R b r l → Q (some (vi 1)) g) (k0 : ¬ posS R b r l → Q (some (vi 0)) g) : Wp true i_M_isPossible 0 [vr 103, vi (r : Int), vi (l : Int), vi (b : Int), vr 9999] [] g Q := by
  have w := W.1
  have key : ∀ (d n : Nat), (n + d = b + 1 ∨ (d = 0 ∧ b < n)) → l ≤ n → (∀ n' : Nat, l ≤ n' → n' < n → ¬ (0 < upL R r l n' ∧ 0 < upL R ((R 0 1).toNat - 1 - r) l (b - n' + l))) → Wp true i_M_isPossible 3 [vr 103, vi (r : Int), vi (l : Int), vi (b : Int), vi (n : Int)] [] g Q := by
    intro d
    induction d with
    | zero =>
      intro n e ln I
      have fin := k0 (fun ⟨n', a1, a2, a3, a4⟩ => I n' a1 (by omega) ⟨a3, a4⟩)
      exact g_M_isPossible_3 (fun _ => fin) (fun q => by omega) (fun q => by omega) (fun q => by omega) (fun q => by omega) (fun q => by omega) (fun q => by omega) (fun q => by omega) (fun q => by omega) (fun q => by omega) (fun q => by omega) (fun q => by omega) (fun q => by omega) (fun q => by omega) (fun q => by omega)
    | succ d ih =>
      intro n e ln I
      have nx : ¬ (0 < upL R r l n ∧ 0 < upL R ((R 0 1).toNat - 1 - r) l (b - n + l)) → Wp true i_M_isPossible 3 [vr 103, vi (r : Int), vi (l : Int), vi (b : Int), vi ((n : Int) + 1)] [] g Q := by
        intro q
        refine ih (n + 1) (by omega) (by omega) (fun n' a1 a2 => ?_)
        by_cases z : n' = n
        · subst z; exact q
        · exact I n' a1 (by omega)
      have va := (T r l n hr hl (by omega) trivial).1
      have vb := (T ((R 0 1).toNat - 1 - r) l (b - n + l) (by omega) hl (by omega) trivial).2
      rw [show (R 0 1).toNat - 1 - ((R 0 1).toNat - 1 - r) = r by omega] at vb
      have ix : (640 * (r : Int) + 64 * (l : Int) + (n : Int)).toNat = 640 * r + 64 * l + n := by omega
      have iy : (640 * (r : Int) + 64 * (l : Int) + (b : Int) - (n : Int) + (l : Int)).toNat = 640 * r + 64 * l + (b - n + l) := by omega
      refine g_M_isPossible_3 (fun q => by omega) (fun _ => by omega) (fun _ => by omega) (fun _ => by omega) (fun _ => by omega) (fun _ => by omega) (fun _ _ => by omega) (fun _ q => ?_) (fun _ _ => by omega) (fun _ _ => by omega) (fun _ _ => by omega) (fun _ _ => by omega) (fun _ _ _ => by omega) (fun _ q1 q2 => ?_) (fun _ q1 q2 => ?_)
      · rw [ix, va] at q; exact nx (fun z => by omega)
      · rw [iy, vb] at q2; exact nx (fun z => by omega)
      · rw [ix, va] at q1; rw [iy, vb] at q2
        exact k1 ⟨n, ln, by omega, by omega, by omega⟩
  refine g_M_isPossible_0 ?_
  by_cases z : l ≤ b
  · exact key (b + 1 - l) l (Or.inl (by omega)) (Nat.le_refl _) (fun n' a1 a2 => by omega)
  · exact key 0 l (Or.inr ⟨rfl, by omega⟩) (Nat.le_refl _) (fun n' a1 a2 => by omega)
theorem A_sure {n : Nat} {h : HP} {x1 : Int} (hR : Rel n h) : Agree n h i_C_sure i_M_sure [vr 0, vi x1] [vr 103, vi x1, vr 9999, vr 9999, vr 9999] := by
  have W := hR.2.2.2.2.2.1.2.1
  have w := W.1
  by_cases c : 0 ≤ x1 ∧ x1 ≤ 63
  · obtain ⟨b, rfl⟩ : ∃ b : Nat, x1 = b := ⟨x1.toNat, by omega⟩
    have sr : -1 ≤ suN (rmC h 10) b ∧ (0 < liN (rmC h 10) b → 0 ≤ suN (rmC h 10) b) := by
      by_cases z : 0 < liN (rmC h 10) b
      · have := suN_b W (b := b) (i := (rmC h 10 0 1).toNat) z (by omega)
        have e : suN (rmC h 10) b = sumF (fun r => (lsC (rmC h 10) b r : Int)) (rmC h 10 0 1).toNat 0 := cho_t z
        omega
      · have e : suN (rmC h 10) b = -1 := cho_f z
        exact ⟨by omega, fun q => absurd q z⟩
    refine ag_scr (v := vi (suN (rmC h 10) b)) (st := if suN (rmC h 10) b < 0 then 6 else 0) hR (fun Q k => ?_) (fun g Q e gk k => ?_)
    · refine g_C_sure_0 (fun _ => ?_) (fun q => absurd c q)
      exact c_Bo_boardsInAll isF_10 rfl W (by omega) (fun h' f => g_C_sure_29 (by omega) (k h' (fun k hk => f k (by omega))))
    · have d := mdim e
      by_cases z : g 104 1 = 0
      · have el : liN (rmC h 10) b = if b = 0 then 1 else 0 := if_neg (by omega)
        have k := k g (ScM_0 (fun _ _ => rfl))
        refine g_M_sure_0 (fun _ q => absurd z q) (fun _ _ q => ?_) (fun _ _ q => ?_) (fun q => absurd c q)
        · rw [if_neg (by omega)] at el
          rw [show suN (rmC h 10) b = -1 from cho_f (by omega), if_pos (by decide)] at k
          exact k
        · rw [if_pos (by omega)] at el
          rw [show suN (rmC h 10) b = 0 from (cho_t (by omega)).trans (by rw [show (rmC h 10 0 1).toNat = 0 by omega]; rfl), if_neg (by decide)] at k
          exact k
      · refine g_M_sure_0 (fun _ _ => ?_) (fun _ q => absurd q z) (fun _ q => absurd q z) (fun q => absurd c q)
        refine c_M_laysLines e W (by omega) (by omega) (fun g' f T => ?_)
        have e' : rmM g' 0 = rmC h 10 := (rmM_congr (f 104 (by decide) (by decide))).trans e
        have dd := mdim e'
        have k := k g' (ScM_0 (fun k hk => f k (by omega) (by omega)))
        have ln : 0 ≤ liN (rmC h 10) b := by
          unfold liN
          rw [if_pos (by omega)]
          have := sumF_rng (f := fun c => upL (rmC h 10) ((rmC h 10 0 1).toNat - 1) c b) (a := 0) (b := 1000000) ((rmC h 10 0 0).toNat + 1) 0 (fun j _ _ => upL_b W (by omega))
          omega
        refine g_M_sure_51 (fun q => ?_) (fun q => ?_)
        · have hp : 0 < liN (rmC h 10) b := by omega
          have es : suN (rmC h 10) b = sumF (fun r => (lsC (rmC h 10) b r : Int)) (rmC h 10 0 1).toNat 0 := cho_t hp
          rw [if_neg (by have := sr.2 hp; omega), es] at k
          have rows : ∀ (d i : Nat) (j4 : AV), (i : Int) + d = rmC h 10 0 1 → Wp true i_M_sure 67 [vr 103, vi (b : Int), vi (sumF (fun r => (lsC (rmC h 10) b r : Int)) i 0), vi (i : Int), j4] [] g' Q := by
            intro d
            induction d with
            | zero =>
              intro i j4 e
              rw [show (rmC h 10 0 1).toNat = i by omega] at k
              exact g_M_sure_67 (fun _ => k) (fun q => by omega)
            | succ d ih =>
              intro i j4 e
              have L := lsC_ok W (b := b) (r := i) (by omega) hp
              have sb := suN_b W (b := b) (i := i) hp (by omega)
              have nx := fun j4 => ih (i + 1) j4 (by omega)
              rw [sumF_last] at nx
              refine g_M_sure_67 (fun q => by omega) (fun _ => ?_)
              obtain ⟨t, et⟩ : ∃ t, t = lsC (rmC h 10) b i := ⟨_, rfl⟩
              rw [← et] at L nx
              have L1 := L.1
              have srch : ∀ (d j : Nat), j + d = t → Wp true i_M_sure 80 [vr 103, vi (b : Int), vi (sumF (fun r => (lsC (rmC h 10) b r : Int)) i 0), vi (i : Int), vi (j : Int)] [] g' Q := by
                intro d
                induction d with
                | zero =>
                  intro j e2
                  have ej : j = t := by omega
                  subst ej
                  refine g_M_sure_80 (c_M_isPossible W T (by omega) (by omega) (by omega) (fun _ => ?_) (fun q => absurd L.2.1 q))
                  exact g_M_sure_88 (fun _ => by omega) (fun _ => by omega) (fun _ => nx _) (fun q => absurd q (by decide)) (fun q => absurd q (by decide))
                | succ d ih3 =>
                  intro j e2
                  refine g_M_sure_80 (c_M_isPossible W T (by omega) (by omega) (by omega) (fun q => absurd q (L.2.2 j (by omega))) (fun _ => ?_))
                  exact g_M_sure_88 (fun q => absurd rfl q) (fun q => absurd rfl q) (fun q => absurd rfl q) (fun _ => by omega) (fun _ => ih3 (j + 1) (by omega))
              exact srch t 0 (by omega)
          exact rows (rmC h 10 0 1).toNat 0 _ (by omega)
        · rw [show suN (rmC h 10) b = -1 from cho_f (by omega), if_pos (by decide)] at k
          exact k
  · refine ag_act0 (v := vi (-1)) (st := 1) hR (fun Q k => ?_) (fun g Q e gk k => ?_)
    · exact g_C_sure_0 (fun q => absurd q c) (fun _ => k)
    · exact g_M_sure_0 (fun q => absurd q c) (fun q => absurd q c) (fun q => absurd q c) (fun _ => k)
