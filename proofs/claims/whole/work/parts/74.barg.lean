theorem c_C_bargainFor {Q : PQ} {h R : HP} {ld gv x3 : Int} (eR : rmC h 10 = R) (W : WR R) (hl : ld = 0 ∨ ld = 1) (hg : gv = 0 ∨ gv = 1)
    (k1 : ¬ (0 ≤ x3 ∧ x3 ≤ 20) → Q (some (vi (-1))) (hs h 0 0 1)) (k6 : (0 ≤ x3 ∧ x3 ≤ 20) → ¬ x3 ≤ rByLine R gv → Q (some (vi (-1))) (hs h 0 0 6))
    (k0 : (0 ≤ x3 ∧ x3 ≤ 20) → x3 ≤ rByLine R gv → ∀ h1, (∀ k, k ≠ 90 → k ≠ 91 → h1 k = h k) → Q (some (vi (pP R ld gv 0 x3.toNat))) (hs h1 0 0 0)) : Wp true i_C_bargainFor 0 [vr 0, vi ld, vi gv, vi x3] [] h Q := by
  have w := W.1
  refine g_C_bargainFor_0 (fun _ => by rw [eR]; exact W) (fun q1 q2 => ?_) (fun q1 q2 => k6 q1 (by rw [← eR]; exact q2)) k1
  rw [eR] at q2
  obtain ⟨n, en⟩ : ∃ n : Nat, x3 = n := ⟨x3.toNat, by omega⟩
  subst en
  have ha : (n : Int) ≤ aG R gv 0 := q2
  refine c_Ba_weigh isF_10 eR W hl hg (by omega) (fun h' f C B => ?_)
  have e' : rmC h' 10 = R := (rC_frame isF_10 (fun k hk => f k (by omega) (by omega))).trans eR
  refine g_C_bargainFor_49 (by rw [e']; exact W) hl (g_Ba_bestChange_0 (by omega) ?_)
  have b := (B 0 n (Nat.le_refl _) (by omega) (Nat.le_refl _)).1 ha
  have p := (pP_rg W (ld := ld) (gv := gv) (r := 0) (n := n) (by omega)).1 ha
  have s0 := sG_0 W (ld := ld) (gv := gv)
  have sr := sG_rg W ld gv 0
  have ev : rVal (rmC h' 10) ld ld + h' 91 ((n : Int)).toNat = pP R ld gv 0 n := by
    rw [e', show ((n : Int)).toNat = 64 * 0 + n by omega, b, s0]; omega
  have k := k0 q1 q2 h' f
  rw [show ((n : Int)).toNat = n from Int.toNat_natCast _, ← ev] at k
  exact g_C_bargainFor_66 (by omega) k
theorem c_C_bargainIn {Q : PQ} {h R : HP} {ld gv x3 x4 : Int} (eR : rmC h 10 = R) (W : WR R) (hl : ld = 0 ∨ ld = 1) (hg : gv = 0 ∨ gv = 1)
    (k1 : ¬ ((0 ≤ x3 ∧ x3 ≤ 20) ∧ (0 ≤ x4 ∧ x4 < R 0 1)) → Q (some (vi (-1))) (hs h 0 0 1)) (k6 : (0 ≤ x3 ∧ x3 ≤ 20) → (0 ≤ x4 ∧ x4 < R 0 1) → ¬ x3 ≤ rByLine R gv → Q (some (vi (-1))) (hs h 0 0 6))
    (k0 : (0 ≤ x3 ∧ x3 ≤ 20) → (0 ≤ x4 ∧ x4 < R 0 1) → x3 ≤ rByLine R gv → ∀ h1, (∀ k, k ≠ 90 → k ≠ 91 → h1 k = h k) → Q (some (vi (gK R ld gv x4.toNat (lfG R ld gv x3.toNat x4.toNat) : Nat))) (hs h1 0 0 0)) : Wp true i_C_bargainIn 0 [vr 0, vi ld, vi gv, vi x3, vi x4] [] h Q := by
  have w := W.1
  have dd := cdim eR
  refine g_C_bargainIn_0 (fun q => k1 (fun z => q z.1)) (fun _ _ => by rw [eR]; exact W) (fun q1 q2 q3 => ?_) (fun q1 q2 q3 => k6 q1 (by omega) (by rw [← eR]; exact q3)) (fun q1 q2 => k1 (fun z => q2 (by omega)))
  rw [eR] at q3
  obtain ⟨n, en⟩ : ∃ n : Nat, x3 = n := ⟨x3.toNat, by omega⟩
  obtain ⟨r, er⟩ : ∃ r : Nat, x4 = r := ⟨x4.toNat, by omega⟩
  subst en er
  have ha : (n : Int) ≤ aG R gv 0 := q3
  refine c_Ba_weigh isF_10 eR W hl hg (by omega) (fun h' f C B => ?_)
  have e' : rmC h' 10 = R := (rC_frame isF_10 (fun k hk => f k (by omega) (by omega))).trans eR
  have k := k0 q1 (by omega) q3 h' f
  rw [show ((n : Int)).toNat = n from Int.toNat_natCast _, show ((r : Int)).toNat = r from Int.toNat_natCast _] at k
  exact g_C_bargainIn_61 (c_Ba_givenIn isF_10 e' W hl hg C B (by omega) (by omega) ha (g_C_bargainIn_77 k))
theorem c_M_planned {Q : PQ} {g R : HP} {ld gv x3 : Int} (eR : rmM g 0 = R) (W : WR R)
    (k1 : ¬ ((ld = 0 ∨ ld = 1) ∧ (0 ≤ x3 ∧ x3 ≤ 20)) → Q (some (vi (-1))) (hs g 103 2 1)) (k6 : (ld = 0 ∨ ld = 1) → (0 ≤ x3 ∧ x3 ≤ 20) → ¬ x3 ≤ rByLine R gv → Q (some (vi (-1))) (hs g 103 2 6))
    (k0 : (ld = 0 ∨ ld = 1) → (0 ≤ x3 ∧ x3 ≤ 20) → x3 ≤ rByLine R gv → ∀ g1, (∀ k, k ≠ 114 → g1 k = g k) → Q (some (vi (pP R ld gv 0 x3.toNat))) (hs g1 103 2 0)) : Wp true i_M_planned 0 [vr 103, vi ld, vi gv, vi x3, vr 9999] [] g Q := by
  have w := W.1
  refine g_M_planned_0 (g_M_wrongPlan_0 (fun q => ?_) (fun hl q => ?_) (fun hl q => ?_))
  · exact g_M_planned_7 (fun z => absurd z (by decide)) (fun _ => k1 (fun z => q z.1))
  · refine c_M_hasInAll eR W (g_M_wrongPlan_28 (fun z => ?_) (fun z => ?_))
    · obtain ⟨n, en⟩ : ∃ n : Nat, x3 = n := ⟨x3.toNat, by omega⟩
      subst en
      refine g_M_planned_7 (fun _ => ?_) (fun z => absurd (by decide) z)
      refine c_M_laysPlan eR W hl (by omega) (fun g' f J => ?_)
      have k := k0 hl q z g' f
      rw [show ((n : Int)).toNat = n from Int.toNat_natCast _] at k
      refine g_M_planned_28 (by omega) ?_
      rw [show ((n : Int)).toNat = 64 * 0 + n by omega, J 0 n (Nat.le_refl _) (by omega) (Nat.le_refl _)]
      exact k
    · exact g_M_planned_7 (fun z => absurd z (by decide)) (fun _ => k6 hl q z)
  · exact g_M_planned_7 (fun z => absurd z (by decide)) (fun _ => k1 (fun z => q z.2))
theorem c_M_plannedIn {Q : PQ} {g R : HP} {ld gv x3 x4 : Int} (eR : rmM g 0 = R) (W : WR R)
    (k1 : ¬ ((ld = 0 ∨ ld = 1) ∧ (0 ≤ x3 ∧ x3 ≤ 20) ∧ (0 ≤ x4 ∧ x4 < R 0 1)) → Q (some (vi (-1))) (hs g 103 2 1)) (k6 : (ld = 0 ∨ ld = 1) → (0 ≤ x3 ∧ x3 ≤ 20) → (0 ≤ x4 ∧ x4 < R 0 1) → ¬ x3 ≤ rByLine R gv → Q (some (vi (-1))) (hs g 103 2 6))
    (k0 : (ld = 0 ∨ ld = 1) → (0 ≤ x3 ∧ x3 ≤ 20) → (0 ≤ x4 ∧ x4 < R 0 1) → x3 ≤ rByLine R gv → ∀ g1, (∀ k, k ≠ 114 → g1 k = g k) → Q (some (vi (gK R ld gv x4.toNat (lfG R ld gv x3.toNat x4.toNat) : Nat))) (hs g1 103 2 0)) : Wp true i_M_plannedIn 0 [vr 103, vi ld, vi gv, vi x3, vi x4, vr 9999] [] g Q := by
  have w := W.1
  have dd := mdim eR
  refine g_M_plannedIn_0 (fun q => ?_) (fun q4 => ?_)
  · exact g_M_plannedIn_20 (fun z => absurd z (by decide)) (fun _ => k1 (fun z => q (by omega)))
  have q4' : 0 ≤ x4 ∧ x4 < R 0 1 := by omega
  refine g_M_wrongPlan_0 (fun q => ?_) (fun hl q => ?_) (fun hl q => ?_)
  · exact g_M_plannedIn_16 (g_M_plannedIn_20 (fun z => absurd z (by decide)) (fun _ => k1 (fun z => q z.1)))
  · refine c_M_hasInAll eR W (g_M_wrongPlan_28 (fun z => ?_) (fun z => ?_))
    · obtain ⟨n, en⟩ : ∃ n : Nat, x3 = n := ⟨x3.toNat, by omega⟩
      obtain ⟨r, er⟩ : ∃ r : Nat, x4 = r := ⟨x4.toNat, by omega⟩
      subst en er
      refine g_M_plannedIn_16 (g_M_plannedIn_20 (fun _ => ?_) (fun z => absurd (by decide) z))
      refine c_M_laysPlan eR W hl (by omega) (fun g' f J => ?_)
      have k := k0 hl q q4' z g' f
      rw [show ((n : Int)).toNat = n from Int.toNat_natCast _, show ((r : Int)).toNat = r from Int.toNat_natCast _] at k
      exact g_M_plannedIn_41 (c_M_givenIn ((rmM_congr (f 104 (by decide))).trans eR) W hl J (by omega) (by omega) z (g_M_plannedIn_51 k))
    · exact g_M_plannedIn_16 (g_M_plannedIn_20 (fun z => absurd z (by decide)) (fun _ => k6 hl q q4' z))
  · exact g_M_plannedIn_16 (g_M_plannedIn_20 (fun z => absurd z (by decide)) (fun _ => k1 (fun z => q z.2.1)))
/-- a bargain of both -/
theorem ag_barg {n : Nat} {h : HP} {ic im : Nat} {lc lm : List AV} {ld gv x3 : Int} (hR : Rel n h)
    (hc : ∀ Q : PQ, (¬ ((ld = 0 ∨ ld = 1) ∧ (0 ≤ x3 ∧ x3 ≤ 20)) → Q (some (vi (-1))) (hs h 0 0 1)) → ((ld = 0 ∨ ld = 1) → (0 ≤ x3 ∧ x3 ≤ 20) → ¬ x3 ≤ rByLine (rmC h 10) gv → Q (some (vi (-1))) (hs h 0 0 6)) → ((ld = 0 ∨ ld = 1) → (0 ≤ x3 ∧ x3 ≤ 20) → x3 ≤ rByLine (rmC h 10) gv → ∀ h1, (∀ k, k ≠ 90 → k ≠ 91 → h1 k = h k) → Q (some (vi (pP (rmC h 10) ld gv 0 x3.toNat))) (hs h1 0 0 0)) → Wp true ic 0 lc [] h Q)
    (hm : ∀ (g : HP) (Q : PQ), rmM g 0 = rmC h 10 → (¬ ((ld = 0 ∨ ld = 1) ∧ (0 ≤ x3 ∧ x3 ≤ 20)) → Q (some (vi (-1))) (hs g 103 2 1)) → ((ld = 0 ∨ ld = 1) → (0 ≤ x3 ∧ x3 ≤ 20) → ¬ x3 ≤ rByLine (rmC h 10) gv → Q (some (vi (-1))) (hs g 103 2 6)) → ((ld = 0 ∨ ld = 1) → (0 ≤ x3 ∧ x3 ≤ 20) → x3 ≤ rByLine (rmC h 10) gv → ∀ g1, (∀ k, k ≠ 114 → g1 k = g k) → Q (some (vi (pP (rmC h 10) ld gv 0 x3.toNat))) (hs g1 103 2 0)) → Wp true im 0 lm [] g Q) : Agree n h ic im lc lm := by
  by_cases c1 : (ld = 0 ∨ ld = 1) ∧ (0 ≤ x3 ∧ x3 ≤ 20)
  · by_cases c2 : x3 ≤ rByLine (rmC h 10) gv
    · refine ag_scr (v := vi (pP (rmC h 10) ld gv 0 x3.toNat)) (st := 0) hR (fun Q k => ?_) (fun g Q e gk k => ?_)
      · exact hc Q (fun q => absurd c1 q) (fun _ _ q => absurd c2 q) (fun _ _ _ h1 f => k h1 (fun k hk => f k (by omega) (by omega)))
      · exact hm g Q e (fun q => absurd c1 q) (fun _ _ q => absurd c2 q) (fun _ _ _ g1 f => k g1 (ScM_0 (fun k hk => f k (by omega))))
    · refine ag_act0 (v := vi (-1)) (st := 6) hR (fun Q k => ?_) (fun g Q e gk k => ?_)
      · exact hc Q (fun q => absurd c1 q) (fun _ _ _ => k) (fun _ _ q => absurd q c2)
      · exact hm g Q e (fun q => absurd c1 q) (fun _ _ _ => k) (fun _ _ q => absurd q c2)
  · refine ag_act0 (v := vi (-1)) (st := 1) hR (fun Q k => ?_) (fun g Q e gk k => ?_)
    · exact hc Q (fun _ => k) (fun a b => absurd ⟨a, b⟩ c1) (fun a b => absurd ⟨a, b⟩ c1)
    · exact hm g Q e (fun _ => k) (fun a b => absurd ⟨a, b⟩ c1) (fun a b => absurd ⟨a, b⟩ c1)
theorem ag_bargI {n : Nat} {h : HP} {ic im : Nat} {lc lm : List AV} {ld gv x3 x4 : Int} (hR : Rel n h)
    (hc : ∀ Q : PQ, (¬ ((ld = 0 ∨ ld = 1) ∧ (0 ≤ x3 ∧ x3 ≤ 20) ∧ (0 ≤ x4 ∧ x4 < rmC h 10 0 1)) → Q (some (vi (-1))) (hs h 0 0 1)) → ((ld = 0 ∨ ld = 1) → (0 ≤ x3 ∧ x3 ≤ 20) → (0 ≤ x4 ∧ x4 < rmC h 10 0 1) → ¬ x3 ≤ rByLine (rmC h 10) gv → Q (some (vi (-1))) (hs h 0 0 6)) → ((ld = 0 ∨ ld = 1) → (0 ≤ x3 ∧ x3 ≤ 20) → (0 ≤ x4 ∧ x4 < rmC h 10 0 1) → x3 ≤ rByLine (rmC h 10) gv → ∀ h1, (∀ k, k ≠ 90 → k ≠ 91 → h1 k = h k) → Q (some (vi (gK (rmC h 10) ld gv x4.toNat (lfG (rmC h 10) ld gv x3.toNat x4.toNat) : Nat))) (hs h1 0 0 0)) → Wp true ic 0 lc [] h Q)
    (hm : ∀ (g : HP) (Q : PQ), rmM g 0 = rmC h 10 → (¬ ((ld = 0 ∨ ld = 1) ∧ (0 ≤ x3 ∧ x3 ≤ 20) ∧ (0 ≤ x4 ∧ x4 < rmC h 10 0 1)) → Q (some (vi (-1))) (hs g 103 2 1)) → ((ld = 0 ∨ ld = 1) → (0 ≤ x3 ∧ x3 ≤ 20) → (0 ≤ x4 ∧ x4 < rmC h 10 0 1) → ¬ x3 ≤ rByLine (rmC h 10) gv → Q (some (vi (-1))) (hs g 103 2 6)) → ((ld = 0 ∨ ld = 1) → (0 ≤ x3 ∧ x3 ≤ 20) → (0 ≤ x4 ∧ x4 < rmC h 10 0 1) → x3 ≤ rByLine (rmC h 10) gv → ∀ g1, (∀ k, k ≠ 114 → g1 k = g k) → Q (some (vi (gK (rmC h 10) ld gv x4.toNat (lfG (rmC h 10) ld gv x3.toNat x4.toNat) : Nat))) (hs g1 103 2 0)) → Wp true im 0 lm [] g Q) : Agree n h ic im lc lm := by
  by_cases c1 : (ld = 0 ∨ ld = 1) ∧ (0 ≤ x3 ∧ x3 ≤ 20) ∧ (0 ≤ x4 ∧ x4 < rmC h 10 0 1)
  · by_cases c2 : x3 ≤ rByLine (rmC h 10) gv
    · refine ag_scr (v := vi (gK (rmC h 10) ld gv x4.toNat (lfG (rmC h 10) ld gv x3.toNat x4.toNat) : Nat)) (st := 0) hR (fun Q k => ?_) (fun g Q e gk k => ?_)
      · exact hc Q (fun q => absurd c1 q) (fun _ _ _ q => absurd c2 q) (fun _ _ _ _ h1 f => k h1 (fun k hk => f k (by omega) (by omega)))
      · exact hm g Q e (fun q => absurd c1 q) (fun _ _ _ q => absurd c2 q) (fun _ _ _ _ g1 f => k g1 (ScM_0 (fun k hk => f k (by omega))))
    · refine ag_act0 (v := vi (-1)) (st := 6) hR (fun Q k => ?_) (fun g Q e gk k => ?_)
      · exact hc Q (fun q => absurd c1 q) (fun _ _ _ _ => k) (fun _ _ _ q => absurd q c2)
      · exact hm g Q e (fun q => absurd c1 q) (fun _ _ _ _ => k) (fun _ _ _ q => absurd q c2)
  · refine ag_act0 (v := vi (-1)) (st := 1) hR (fun Q k => ?_) (fun g Q e gk k => ?_)
    · exact hc Q (fun _ => k) (fun a b d => absurd ⟨a, b, d⟩ c1) (fun a b d => absurd ⟨a, b, d⟩ c1)
    · exact hm g Q e (fun _ => k) (fun a b d => absurd ⟨a, b, d⟩ c1) (fun a b d => absurd ⟨a, b, d⟩ c1)
theorem A_give {n : Nat} {h : HP} {x1 x2 : Int} (hR : Rel n h) : Agree n h i_C_give i_M_give [vr 0, vi x1, vi x2] [vr 103, vi x1, vi x2] := by
  have W := hR.2.2.2.2.2.1.2.1
  refine ag_barg (ld := x1) (gv := x1) (x3 := x2) hR (fun Q k1 k6 k0 => ?_) (fun g Q e k1 k6 k0 => ?_)
  · refine g_C_give_0 (fun q => k1 (fun z => q z.1)) (fun hl => ?_)
    exact c_C_bargainFor rfl W hl hl (fun q => g_C_give_14 (k1 (fun z => q z.2))) (fun q1 q2 => g_C_give_14 (k6 hl q1 q2)) (fun q1 q2 h1 f => g_C_give_14 (k0 hl q1 q2 h1 f))
  · exact g_M_give_0 (c_M_planned e W (fun q => g_M_give_7 (k1 q)) (fun hl q1 q2 => g_M_give_7 (k6 hl q1 q2)) (fun hl q1 q2 g1 f => g_M_give_7 (k0 hl q1 q2 g1 f)))
theorem A_ask {n : Nat} {h : HP} {x1 x2 : Int} (hR : Rel n h) : Agree n h i_C_ask i_M_ask [vr 0, vi x1, vi x2] [vr 103, vi x1, vi x2] := by
  have W := hR.2.2.2.2.2.1.2.1
  refine ag_barg (ld := x1) (gv := 1 - x1) (x3 := x2) hR (fun Q k1 k6 k0 => ?_) (fun g Q e k1 k6 k0 => ?_)
  · refine g_C_ask_0 (fun q => k1 (fun z => q z.1)) (fun _ => by omega) (fun hl => ?_)
    exact c_C_bargainFor rfl W hl (by omega) (fun q => g_C_ask_16 (k1 (fun z => q z.2))) (fun q1 q2 => g_C_ask_16 (k6 hl q1 q2)) (fun q1 q2 h1 f => g_C_ask_16 (k0 hl q1 q2 h1 f))
  · have ew : (x1 = 0 ∨ x1 = 1) → w32 (1 - x1) = 1 - x1 := fun hl => w32_id (by omega) (by omega)
    exact gw_M_ask_0 (c_M_planned e W (fun q => g_M_ask_9 (k1 q)) (fun hl q1 q2 => g_M_ask_9 (k6 hl q1 (by rw [ew hl] at q2; exact q2))) (fun hl q1 q2 g1 f => g_M_ask_9 (by rw [ew hl] at q2 ⊢; exact k0 hl q1 q2 g1 f)))
theorem A_giveIn {n : Nat} {h : HP} {x1 x2 x3 : Int} (hR : Rel n h) : Agree n h i_C_giveIn i_M_giveIn [vr 0, vi x1, vi x2, vi x3] [vr 103, vi x1, vi x2, vi x3] := by
  have W := hR.2.2.2.2.2.1.2.1
  refine ag_bargI (ld := x1) (gv := x1) (x3 := x2) (x4 := x3) hR (fun Q k1 k6 k0 => ?_) (fun g Q e k1 k6 k0 => ?_)
  · refine g_C_giveIn_0 (fun q => k1 (fun z => q z.1)) (fun hl => ?_)
    exact c_C_bargainIn rfl W hl hl (fun q => g_C_giveIn_15 (k1 (fun z => q z.2))) (fun q1 q2 q3 => g_C_giveIn_15 (k6 hl q1 q2 q3)) (fun q1 q2 q3 h1 f => g_C_giveIn_15 (k0 hl q1 q2 q3 h1 f))
  · exact g_M_giveIn_0 (c_M_plannedIn e W (fun q => g_M_giveIn_8 (k1 q)) (fun hl q1 q2 q3 => g_M_giveIn_8 (k6 hl q1 q2 q3)) (fun hl q1 q2 q3 g1 f => g_M_giveIn_8 (k0 hl q1 q2 q3 g1 f)))
theorem A_askIn {n : Nat} {h : HP} {x1 x2 x3 : Int} (hR : Rel n h) : Agree n h i_C_askIn i_M_askIn [vr 0, vi x1, vi x2, vi x3] [vr 103, vi x1, vi x2, vi x3] := by
  have W := hR.2.2.2.2.2.1.2.1
  refine ag_bargI (ld := x1) (gv := 1 - x1) (x3 := x2) (x4 := x3) hR (fun Q k1 k6 k0 => ?_) (fun g Q e k1 k6 k0 => ?_)
  · refine g_C_askIn_0 (fun q => k1 (fun z => q z.1)) (fun _ => by omega) (fun hl => ?_)
    exact c_C_bargainIn rfl W hl (by omega) (fun q => g_C_askIn_17 (k1 (fun z => q z.2))) (fun q1 q2 q3 => g_C_askIn_17 (k6 hl q1 q2 q3)) (fun q1 q2 q3 h1 f => g_C_askIn_17 (k0 hl q1 q2 q3 h1 f))
  · have ew : (x1 = 0 ∨ x1 = 1) → w32 (1 - x1) = 1 - x1 := fun hl => w32_id (by omega) (by omega)
    exact gw_M_askIn_0 (c_M_plannedIn e W (fun q => g_M_askIn_10 (k1 q)) (fun hl q1 q2 q3 => g_M_askIn_10 (k6 hl q1 q2 (by rw [ew hl] at q3; exact q3))) (fun hl q1 q2 q3 g1 f => g_M_askIn_10 (by rw [ew hl] at q3 ⊢; exact k0 hl q1 q2 q3 g1 f)))
theorem A_price {n : Nat} {h : HP} {x1 x2 : Int} (hR : Rel n h) : Agree n h i_C_price i_M_price [vr 0, vi x1, vi x2] [vr 103, vi x1, vi x2, vr 9999, vr 9999] := by
  have W := hR.2.2.2.2.2.1.2.1
  have w := W.1
  by_cases c : (x1 = 0 ∨ x1 = 1) ∧ (0 ≤ x2 ∧ x2 ≤ 990)
  · obtain ⟨hl, hx⟩ := c
    have br : 0 ≤ rByLine (rmC h 10) (1 - x1) ∧ rByLine (rmC h 10) (1 - x1) ≤ 63 := by
      have := sumF_rng (f := fun r => rIn (rmC h 10) (1 - x1) r) (a := 0) (b := 9) (rmC h 10 0 1).toNat 0 (fun j _ h => rIn_b W (by omega))
      unfold rByLine; omega
    obtain ⟨N, eN⟩ : ∃ N : Nat, rByLine (rmC h 10) (1 - x1) = N := ⟨(rByLine (rmC h 10) (1 - x1)).toNat, by omega⟩
    obtain ⟨a, F⟩ := FW_ex (rmC h 10) x1 (1 - x1) x2 N
    have ar := FW_rg F
    refine ag_scr (v := vi a) (st := if a < 0 then 6 else 0) hR (fun Q k => ?_) (fun g Q e gk k => ?_)
    · refine g_C_price_0 (fun q => absurd hl q) (fun _ _ => ?_) (fun _ q => absurd hx q)
      refine c_Ba_fewestFor isF_10 rfl W hl eN (by omega) F (fun h' f => ?_)
      exact g_C_price_38 (by omega) (k h' (fun k hk => f k (by omega) (by omega)))
    · have d := mdim e
      refine g_M_price_0 (fun q => absurd hl q) (fun _ _ => by omega) (fun _ _ => ?_) (fun _ q => absurd hx q)
      refine c_M_hasInAll e W ?_
      refine g_M_price_32 (by omega) ?_
      rw [eN]
      refine c_M_laysPlan e W hl (by omega) (fun g' f J => ?_)
      refine g_M_price_42 ?_
      have k := k g' (ScM_0 (fun k hk => f k (by omega)))
      have vv : ∀ n : Nat, n ≤ N → g' 114 ((n : Int)).toNat = pP (rmC h 10) x1 (1 - x1) 0 n := by
        intro n hn
        rw [show ((n : Int)).toNat = 64 * 0 + n by omega]
        exact J 0 n (Nat.le_refl _) (by omega) hn
      have key : ∀ (d i : Nat), i + d = N + 1 → (∀ n : Nat, n < i → ¬ x2 ≤ pP (rmC h 10) x1 (1 - x1) 0 n) → Wp true i_M_price 45 [vr 103, vi x1, vi x2, vi (N : Int), vi (i : Int)] [] g' Q := by
        intro d
        induction d with
        | zero =>
          intro i e I
          have ea : a = -1 := FW_un F (Or.inl ⟨rfl, fun n hn => I n (by omega)⟩)
          rw [ea, if_pos (by omega)] at k
          exact g_M_price_45 (fun _ => k) (fun q => by omega) (fun q => by omega) (fun q => by omega) (fun q => by omega)
        | succ d ih =>
          intro i e I
          have u := vv i (by omega)
          refine g_M_price_45 (fun q => by omega) (fun _ => by omega) (fun _ _ => by omega) (fun _ q => ?_) (fun _ q => ?_)
          · rw [u] at q
            refine ih (i + 1) (by omega) (fun n hn => ?_)
            by_cases z : n = i
            · subst z; omega
            · exact I n (by omega)
          · rw [u] at q
            have ea : a = (i : Int) := FW_un F (Or.inr ⟨i, rfl, by omega, by omega, I⟩)
            rw [ea, if_neg (by omega)] at k
            exact k
      exact key (N + 1) 0 (by omega) (fun n hn => by omega)
  · refine ag_act0 (v := vi (-1)) (st := 1) hR (fun Q k => ?_) (fun g Q e gk k => ?_)
    · exact g_C_price_0 (fun _ => k) (fun q1 q2 => absurd ⟨q1, q2⟩ c) (fun _ _ => k)
    · exact g_M_price_0 (fun _ => k) (fun q1 q2 => absurd ⟨q1, q2⟩ c) (fun q1 q2 => absurd ⟨q1, q2⟩ c) (fun _ _ => k)
