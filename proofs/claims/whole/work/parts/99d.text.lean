theorem wm_m1 {B : Bt} {n s : Nat} : wm (tW B n s) = -1 ↔ tW B n s = -1 := by
  have r := tW_rg (B := B) (n := n) (s := s)
  constructor
  · intro h
    by_cases c : tW B n s = -1
    · exact c
    · have := (wm_eq (B := B) (n := n) (s := s) (j := (tW B n s).toNat) (by omega)).mpr (by omega)
      rw [h] at this
      have pos : ∀ j : Nat, j < 22 → ¬ (-1 : Int) = wmL.getD j 0 := by decide +kernel
      exact absurd this (pos _ (by omega))
  · intro h; rw [h]; rfl
theorem c_M_isName {Q : PQ} {h : HP} {B : Bt} {n s : Nat} (S : MS B n s h) (k1 : isNm B n s → Q (some (vi 1)) h) (k0 : ¬ isNm B n s → Q (some (vi 0)) h) : Wp true i_M_isName 0 [vr 103, vr 2001] [] h Q := by
  have e12 := S.2.2.2.2.1
  have e13 := S.2.2.1
  have e14 := S.2.2.2.1
  have kc := kM_c (tK B n s)
  have tr := tK_rg (B := B) (n := n) (s := s)
  have b := tE_b (B := B) S.2.1
  have n9 := S.1.1
  have hn := S.2.1
  have w1 := wm_m1 (B := B) (n := n) (s := s)
  unfold isNm at k1 k0
  refine g_M_isName_0 (fun c => k0 (by omega)) (fun _ => by omega) (fun c c2 => k0 (by omega)) (fun c c2 => c_M_inWords S ?_)
  refine g_M_isName_27 (fun z => k0 (fun q => z (w1.mpr q.2.1))) (fun z => k1 ⟨by omega, w1.mp z, by omega⟩)
theorem lsh8 {y c : Nat} (hy : y < 36028797018963968) (hc : c < 256) : o_lor (o_lshl (y : Int) 8) (c : Int) = (y : Int) * 256 + c := by
  unfold o_lor o_lshl
  rw [Int64.ofInt_toInt]
  have a : ∀ m : Nat, m < 2 ^ 64 → (Int64.ofInt (m : Int)).toBitVec.toNat = m := by
    intro m hm
    show (BitVec.ofInt 64 (m : Int)).toNat = m
    rw [BitVec.ofInt_natCast, BitVec.toNat_ofNat, Nat.mod_eq_of_lt hm]
  have e : (Int64.ofInt (y : Int) <<< ((Int32.ofInt 8).toInt64 &&& 63) ||| Int64.ofInt (c : Int)) = Int64.ofInt ((y * 256 + c : Nat) : Int) := by
    rw [← Int64.toBitVec_inj, Int64.toBitVec_or, Int64.toBitVec_shiftLeft]
    apply BitVec.eq_of_toNat_eq
    show (((Int64.ofInt (y : Int)).toBitVec <<< (((Int32.ofInt ((8 : Nat) : Int)).toInt64 &&& 63).toBitVec.smod 64).toNat) ||| (Int64.ofInt (c : Int)).toBitVec).toNat = _
    rw [bL_sa 8 (by decide), BitVec.toNat_or, BitVec.toNat_shiftLeft, a y (by omega), a c (by omega), a (y * 256 + c) (by omega)]
    have q := Nat.shiftLeft_add_eq_or_of_lt (i := 8) (b := c) hc y
    rw [Nat.shiftLeft_eq] at q ⊢
    rw [Nat.mod_eq_of_lt (by omega), ← q]
  rw [e, i64_t ⟨by omega, by omega⟩]
  omega
theorem p256 {d : Nat} (h : d ≤ 7) : (256 : Int) ^ d ≤ 72057594037927936 := by
  rcases (show d = 0 ∨ d = 1 ∨ d = 2 ∨ d = 3 ∨ d = 4 ∨ d = 5 ∨ d = 6 ∨ d = 7 by omega) with rfl | rfl | rfl | rfl | rfl | rfl | rfl | rfl <;> decide
theorem nm256_7 : ∀ l : List Nat, (∀ c ∈ l, 1 ≤ c ∧ c ≤ 26) → l.length ≤ 7 → nm256 l < 36028797018963968
  | [], _, _ => by decide
  | c :: l, h, e => by
    have h1 := h c (List.mem_cons_self)
    -- the first letter is below 128
    have key : ∀ (l : List Nat) (d : Nat), (∀ c ∈ l, 1 ≤ c ∧ c ≤ 26) → l.length = d + 1 → nm256 l < 128 * 256 ^ d := by
      intro l
      induction l with
      | nil => intro d _ e; simp at e
      | cons c l ih =>
        intro d hr e
        have hc := hr c (List.mem_cons_self)
        rw [List.length_cons] at e
        cases d with
        | zero =>
          have : l = [] := List.length_eq_zero_iff.mp (by omega)
          subst this
          rw [nm256, nm256]; omega
        | succ d =>
          have q := ih d (fun c hc => hr c (List.mem_cons_of_mem _ hc)) (by omega)
          rw [nm256, Int.pow_succ]; omega
    have q := key (c :: l) l.length h rfl
    rw [List.length_cons] at e
    have p : (256 : Int) ^ l.length ≤ 281474976710656 := by
      rcases (show l.length = 0 ∨ l.length = 1 ∨ l.length = 2 ∨ l.length = 3 ∨ l.length = 4 ∨ l.length = 5 ∨ l.length = 6 by omega) with z | z | z | z | z | z | z <;> rw [z] <;> decide
    omega
theorem c_M_nameHere {Q : PQ} {h : HP} {B : Bt} {n s : Nat} (S : MS B n s h) (hN : isNm B n s) (k : Q (some (vj (nm256 (tL B n s)))) h) : Wp true i_M_nameHere 0 [vr 103, vr 9999, vr 9999, vr 9999] [] h Q := by
  have e13 := S.2.2.1
  have e14 := S.2.2.2.1
  have n9 := S.1.1
  have bE := tE_b (B := B) S.2.1
  have al := tW_all hN.1
  have n8 := hN.2.2
  have lp : ∀ (d i : Nat), s + i + d = tE B n s → Wp true i_M_nameHere 7 [vr 103, vj (nm256 (ltr B i s)), vr 9999, vi ((s + i : Nat) : Int)] [] h Q := by
    intro d
    induction d with
    | zero =>
      intro i hi
      refine g_M_nameHere_7 (fun _ => ?_) (fun c => by omega)
      have : tL B n s = ltr B i s := by unfold tL; rw [show tE B n s - s = i by omega]
      rw [this] at k; exact k
    | succ d ih =>
      intro i hi
      have l := al (s + i) (by omega) (by omega)
      have l1 := l.1
      have l2 := l.2
      refine g_M_nameHere_7 (fun c => by omega) (fun _ => c_M_byteAt (p := s + i) S.1 rfl ?_)
      rw [bv_e (by omega) (by omega)]
      refine g_M_nameHere_24 (by omega) ?_
      have rg := ltr_rg (B := B) (s := s) i (fun p h1 h2 => al p h1 (by omega))
      have b0 := nm256_0 (ltr B i s)
      have b1 := nm256_7 (ltr B i s) rg (by rw [ltr_len]; omega)
      have e := lsh8 (y := (nm256 (ltr B i s)).toNat) (c := (B (s + i)).toNat) (by omega) (by omega)
      rw [show (((nm256 (ltr B i s)).toNat : Nat) : Int) = nm256 (ltr B i s) by omega, show (((B (s + i)).toNat : Nat) : Int) = B (s + i) by omega] at e
      rw [e]
      have e2 : nm256 (ltr B i s) * 256 + B (s + i) = nm256 (ltr B (i + 1) s) := by rw [ltr, nm256]; omega
      rw [e2]
      exact ih (i + 1) (by omega)
  refine g_M_nameHere_0 ?_
  rw [e13]
  exact lp (tE B n s - s) 0 (by omega)
theorem c_M_findHere {Q : PQ} {h : HP} {B : Bt} {n s b m : Nat} {N : Nat → List Nat} (S : MS B n s h) (hN : isNm B n s) (hb : b + m ≤ 60) (hn : ∀ i, i < m → h 105 (b + i) = nm256 (N i) ∧ ∀ c ∈ N i, 1 ≤ c ∧ c ≤ 26)
    (k : Q (some (vi (fnd (fun i => N i = tL B n s) m 0))) h) : Wp true i_M_findHere 0 [vr 103, vi (b : Int), vi (m : Int), vr 9999] [] h Q := by
  have rgL : ∀ c ∈ tL B n s, 1 ≤ c ∧ c ≤ 26 := ltr_rg _ (fun p h1 h2 => tW_all hN.1 p h1 (by omega))
  have lp : ∀ (d i : Nat), i + d = m → Q (some (vi (fnd (fun i => N i = tL B n s) d i))) h → Wp true i_M_findHere 2 [vr 103, vi (b : Int), vi (m : Int), vi (i : Int)] [] h Q := by
    intro d
    induction d with
    | zero =>
      intro i hi kk
      exact g_M_findHere_2 (fun _ => kk) (fun c => by omega) (fun c => by omega) (fun c => by omega)
    | succ d ih =>
      intro i hi kk
      have q := hn i (by omega)
      have ei : ((b : Int) + (i : Int)).toNat = b + i := by omega
      refine g_M_findHere_2 (fun c => by omega) (fun c => by omega) (fun c => by omega) (fun c => c_M_nameHere S hN ?_)
      rw [ei, q.1]
      refine g_M_findHere_19 (fun _ => by omega) (fun y => ?_) (fun y => ?_)
      · refine ih (i + 1) (by omega) ?_
        rw [fnd_s (fun z : N i = tL B n s => y (by rw [z]))] at kk; exact kk
      · rw [fnd_h (nm256_inj _ _ q.2 rgL y)] at kk; exact kk
  exact g_M_findHere_0 (lp m 0 (by omega) k)
theorem c_M_isThere {Q : PQ} {h : HP} {B : Bt} {n s j : Nat} {w : Int} (S : MS B n s h) (hj : j < 22) (ew : w = wmL.getD j 0) (k1 : tW B n s = j → ∀ g, MS B n (nx B n s) g → Oth 103 TLM h g → Q (some (vi 1)) g) (k0 : ¬ tW B n s = j → Q (some (vi 0)) h) : Wp true i_M_isThere 0 [vr 103, vi w] [] h Q := by
  have we := wm_eq (B := B) (n := n) (s := s) hj
  subst ew
  exact g_M_isThere_0 (c_M_inWords S (g_M_isThere_6 (fun c => c_M_nx S (fun g S' o => g_M_isThere_16 (k1 (we.mp c) g S' o))) (fun c => k0 (fun q => c (we.mpr q)))))
theorem c_M_begins {Q : PQ} {h : HP} {B : Bt} {n : Nat} {x2 : Int} (n9 : n ≤ 900) (nx2 : (n : Int) ≤ x2) (nt : (n : Int) ≤ h 103 10) (hb : ∀ p, p < n → h 109 p = B p ∧ -128 ≤ B p ∧ B p ≤ 127) (k : ∀ g, MS B n (rn isBk B (n - 0) 0) g → (∀ i, i ∉ [10, 11, 12, 13, 14, 15, 17, 18, 19] → g 103 i = h 103 i) → (∀ k, k ≠ 103 → k ≠ 110 → g k = h k) → g 103 10 = 0 → g 103 17 = -1 → g 103 18 = 0 → Q (some (vi 1)) g) : Wp true i_M_begins 0 [vr 103, vi (n : Int), vi x2, vr 9999] [] h Q := by
  have lp : ∀ (d i : Nat) (g : HP), i + d = n → (∀ k, k ≠ 110 → g k = (hs h 103 11 (n : Int)) k) → (∀ p, p < i → g 110 p = B p) → Wp true i_M_begins 26 [vr 103, vi (n : Int), vi x2, vi (i : Int)] [] g Q := by
    intro d
    induction d with
    | zero =>
      intro i g hi f t
      have ei : i = n := by omega
      subst ei
      refine g_M_begins_26 (fun _ => ?_) (fun c => by omega) (fun c => by omega) (fun c => by omega) (fun c => by omega)
      have o : Oth 103 [10, 14, 17, 18, 19] g (hs (hs (hs (hs (hs g 103 10 0) 103 18 0) 103 17 (-1)) 103 14 0) 103 19 0) := Oth_hs (Oth_hs (Oth_hs (Oth_hs (Oth_hs Oth_r (by decide)) (by decide)) (by decide)) (by decide)) (by decide)
      refine c_M_ahead (B := B) (n := i) (p := 0) ⟨n9, ?_, fun p hp => (hb p hp).2, ?_⟩ (Nat.zero_le _) ?_ (fun u S ou => g_M_begins_78 (k u S (fun j hj => ?_) (fun j j1 j2 => ?_) ?_ ?_ ?_))
      · intro p hp
        rw [o.1 110 (by decide)]; exact t p hp
      · rw [o.2 11 (by decide), f 103 (by decide), hs_s]
      · rw [hs_o (by decide), hs_s]; rfl
      · simp only [List.mem_cons, List.not_mem_nil, or_false, not_or] at hj
        rw [ou.2 j (by simp only [List.mem_cons, List.not_mem_nil, or_false, not_or]; omega), o.2 j (by simp only [List.mem_cons, List.not_mem_nil, or_false, not_or]; omega), f 103 (by decide), hs_o (Or.inr (by omega))]
      · rw [ou.1 j j1, o.1 j j1, f j j2, hs_ne j1]
      · rw [ou.2 10 (by decide), hs_o (by decide), hs_o (by decide), hs_o (by decide), hs_o (by decide), hs_s]
      · rw [ou.2 17 (by decide), hs_o (by decide), hs_o (by decide), hs_s]
      · rw [ou.2 18 (by decide), hs_o (by decide), hs_o (by decide), hs_o (by decide), hs_s]
    | succ d ih =>
      intro i g hi f t
      have e109 : g 109 (i : Int).toNat = B i := by rw [Int.toNat_natCast, f 109 (by decide), hs_ne (by decide)]; exact (hb i (by omega)).1
      have r := (hb i (by omega)).2
      refine g_M_begins_26 (fun c => by omega) (fun _ => by omega) (fun _ => by rw [e109]; exact r) (fun _ => by omega) (fun _ => ?_)
      rw [e109, Int.toNat_natCast]
      refine ih (i + 1) _ (by omega) (fun k hk => by rw [hs_ne hk]; exact f k hk) (fun p hp => ?_)
      by_cases z : p = i
      · rw [z, hs_s]
      · rw [hs_o (Or.inr z)]; exact t p (by omega)
  refine g_M_begins_0 (fun c => by omega) (fun _ c => by omega) (fun _ _ _ => ?_) (fun _ _ c => by omega)
  exact lp n 0 _ (by omega) (fun k _ => rfl) (fun p hp => by omega)
