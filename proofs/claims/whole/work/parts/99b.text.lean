/-! the WORDS of the reference -/
def wmL : List Int := [0, 4, 1, 2, 3, 5, 6, 7, 8, 9, 10, 11, 12, 14, 13, 15, 19, 20, 21, 16, 17, 18]
def imL : List Nat := [0, 2, 3, 4, 1, 5, 6, 7, 8, 9, 10, 11, 12, 14, 13, 15, 19, 20, 21, 16, 17, 18]
def wm (w : Int) : Int := if w < 0 then -1 else wmL.getD w.toNat 0
def KS : List Nat := [1, 6, 11, 17, 23, 26, 29, 35, 39, 43, 49, 55, 61, 66, 70, 73, 78, 83, 87, 92, 99, 105, 111]
def ks (m : Nat) : Nat := KS.getD m 0
def ZZ (p : Nat) : Int := (zstr 2001).getD p 0
def MK (m : Nat) : List Nat := ltr ZZ (ks (m + 1) - 1 - ks m) (ks m)
theorem ks_f : ∀ m, m < 22 → 1 ≤ ks m ∧ ks m + 2 < ks (m + 1) ∧ ks (m + 1) ≤ 111 ∧ ZZ (ks (m + 1) - 1) = 32 := by decide +kernel
theorem ks_l : ∀ m, m < 22 → ∀ i, i < 6 → ks m + i < ks (m + 1) - 1 → 97 ≤ ZZ (ks m + i) ∧ ZZ (ks m + i) ≤ 122 := by decide +kernel
theorem ks_6 : ∀ m, m < 22 → ks (m + 1) - 1 - ks m ≤ 6 := by decide +kernel
theorem MK_i : ∀ m, m < 22 → KL.getD (imL.getD m 0) [] = MK m ∧ imL.getD m 0 < 22 ∧ wmL.getD (imL.getD m 0) 0 = m := by decide +kernel
theorem MK_w : ∀ i, i < 22 → MK (wmL.getD i 0).toNat = KL.getD i [] ∧ (wmL.getD i 0).toNat < 22 := by decide +kernel
theorem mW_y {B : Bt} {n s m : Nat} (hm : m < 22) (K1 : tK B n s = 1) (e : MK m = tL B n s) : wm (tW B n s) = m := by
  obtain ⟨a, b, c⟩ := MK_i m hm
  have : tW B n s = (imL.getD m 0 : Nat) := by
    unfold tW
    rw [if_pos K1]
    exact fnd_one b (a.trans e) (fun q hq pq => KL_inj q hq _ b (pq.trans (a.trans e).symm))
  rw [this]
  unfold wm
  rw [if_neg (by omega), Int.toNat_natCast, c]
theorem mW_n {B : Bt} {n s : Nat} (h : ∀ m, m < 22 → MK m ≠ tL B n s) : wm (tW B n s) = -1 := by
  have : tW B n s = -1 := by
    unfold tW
    split
    · exact fnd_no (fun q hq pq => h _ (MK_w q hq).2 ((MK_w q hq).1.trans pq))
    · rfl
  rw [this]; rfl
theorem ltr_c {A B : Bt} {a b : Nat} : ∀ d, (∀ i, i < d → A (a + i) = B (b + i)) → ltr A d a = ltr B d b
  | 0, _ => rfl
  | d + 1, h => by rw [ltr, ltr, h d (by omega), ltr_c d (fun i hi => h i (by omega))]
theorem ltr_i {A B : Bt} {a b : Nat} : ∀ d, ltr A d a = ltr B d b → ∀ i, i < d → (A (a + i) - 96).toNat = (B (b + i) - 96).toNat
  | 0, _, i, hi => by omega
  | d + 1, h, i, hi => by
    rw [ltr, ltr, List.cons.injEq] at h
    by_cases z : i = d
    · rw [z]; exact h.1
    · exact ltr_i d h.2 i (by omega)
theorem c_M_inWords {Q : PQ} {h : HP} {B : Bt} {n s : Nat} (S : MS B n s h) (k : Q (some (vi (wm (tW B n s)))) h) : Wp true i_M_inWords 0 [vr 103, vr 2001, vr 9999, vr 9999, vr 9999, vr 9999, vr 9999] [] h Q := by
  have e13 := S.2.2.1
  have e14 := S.2.2.2.1
  have e12 := S.2.2.2.2.1
  have n9 := S.1.1
  have bE := tE_b (B := B) S.2.1
  have kc := kM_c (tK B n s)
  by_cases K1 : tK B n s = 1
  · have al := tW_all K1
    have out : ∀ (d m : Nat) (j4 j5 j6 : AV), m + d = 22 → (∀ j, j < m → MK j ≠ tL B n s) → Wp true i_M_inWords 14 [vr 103, vr 2001, vi (m : Int), vi (ks m : Int), j4, j5, j6] [] h Q := by
      intro d
      induction d with
      | zero =>
        intro m j4 j5 j6 hm no
        have m22 : m = 22 := by omega
        subst m22
        refine g_M_inWords_14 (fun _ => ?_) (fun c => absurd (by decide) c)
        rw [mW_n no] at k; exact k
      | succ d ih =>
        intro m j4 j5 j6 hm no
        have f := ks_f m (by omega)
        have f6 := ks_6 m (by omega)
        have nxt' : MK m ≠ tL B n s → ∀ (j4 j5 j6 : AV), Wp true i_M_inWords 14 [vr 103, vr 2001, vi ((m : Int) + 1), vi (((ks (m + 1) - 1 : Nat) : Int) + 1), j4, j5, j6] [] h Q := by
          intro z j4 j5 j6
          have := ih (m + 1) j4 j5 j6 (by omega) (fun j hj => by
            by_cases y : j = m
            · rw [y]; exact z
            · exact no j (by omega))
          rw [show (((ks (m + 1) - 1 : Nat) : Int) + 1) = ((ks (m + 1) : Nat) : Int) by omega]
          exact this
        have e115 : MK m ≠ tL B n s → ∀ x6 : Int, Wp true i_M_inWords 115 [vr 103, vr 2001, vi (m : Int), vi (ks m : Int), vi ((ks (m + 1) - 1 : Nat) : Int), vi 0, vi x6] [] h Q := by
          intro z x6
          exact g_M_inWords_115 (fun _ => by omega) (fun _ => by omega) (fun _ => nxt' z _ _ _) (fun y => absurd rfl y)
        have e68 : MK m ≠ tL B n s → ∀ x6 : Int, Wp true i_M_inWords 68 [vr 103, vr 2001, vi (m : Int), vi (ks m : Int), vi ((ks (m + 1) - 1 : Nat) : Int), vi 0, vi x6] [] h Q := by
          intro z x6
          exact g_M_inWords_68 (fun _ => e115 z x6) (fun _ _ => e115 z x6) (fun _ y => absurd rfl y) (fun _ y => absurd rfl y) (fun _ y => absurd rfl y) (fun _ y => absurd rfl y)
        have cmp : ks (m + 1) - 1 - ks m = tE B n s - s → ∀ (d i : Nat), ks m + i + d = ks (m + 1) - 1 → (∀ j, j < i → ZZ (ks m + j) = B (s + j)) → Wp true i_M_inWords 68 [vr 103, vr 2001, vi (m : Int), vi (ks m : Int), vi ((ks (m + 1) - 1 : Nat) : Int), vi 1, vi ((ks m + i : Nat) : Int)] [] h Q := by
          intro el d
          induction d with
          | zero =>
            intro i hi eqs
            refine g_M_inWords_68 (fun _ => ?_) (fun y => by omega) (fun y => by omega) (fun y => by omega) (fun y => by omega) (fun y => by omega)
            refine g_M_inWords_115 (fun y => absurd y (by decide)) (fun y => absurd y (by decide)) (fun y => absurd y (by decide)) (fun _ => ?_)
            have me : MK m = tL B n s := by
              unfold MK tL
              rw [← el]
              exact ltr_c _ (fun j hj => eqs j (by omega))
            rw [mW_y (by omega) K1 me] at k; exact k
          | succ d ihd =>
            intro i hi eqs
            have li := ks_l m (by omega) i (by omega) (by omega)
            have lb := al (s + i) (by omega) (by omega)
            have lb1 := lb.1
            have lb2 := lb.2
            refine g_M_inWords_68 (fun y => by omega) (fun _ y => absurd y (by decide)) (fun _ _ => by omega) (fun _ _ => by omega) (fun _ _ => by omega) (fun _ _ => ?_)
            refine c_M_byteAt (p := s + i) S.1 (by omega) ?_
            rw [bv_e (by omega) (by omega)]
            refine g_M_inWords_99 (fun _ => by omega) (fun y => ?_) (fun _ => by omega) (fun y => ?_)
            · refine e68 (fun me => y ?_) _
              unfold MK tL at me
              rw [← el] at me
              have := ltr_i _ me i (by omega)
              show (zstr 2001).getD ((ks m + i : Nat) : Int).toNat 0 = B (s + i)
              rw [Int.toNat_natCast]
              have li1 := li.1
              have li2 := li.2
              show ZZ (ks m + i) = B (s + i)
              omega
            · have y : (zstr 2001).getD ((ks m + i : Nat) : Int).toNat 0 = B (s + i) := y
              rw [Int.toNat_natCast] at y
              refine ihd (i + 1) (by omega) (fun j hj => ?_)
              by_cases z : j = i
              · rw [z]; exact y
              · exact eqs j (by omega)
        have scan : ∀ (d i : Nat), ks m + i + d = ks (m + 1) - 1 → ∀ (j5 j6 : AV), Wp true i_M_inWords 25 [vr 103, vr 2001, vi (m : Int), vi (ks m : Int), vi ((ks m + i : Nat) : Int), j5, j6] [] h Q := by
          intro d
          induction d with
          | zero =>
            intro i hi j5 j6
            have ei : ks m + i = ks (m + 1) - 1 := by omega
            rw [ei]
            have z32 : (zstr 2001).getD ((ks (m + 1) - 1 : Nat) : Int).toNat 0 = 32 := by rw [Int.toNat_natCast]; exact f.2.2.2
            refine g_M_inWords_25 (by omega) (fun _ => by omega) (fun _ => by omega) (fun _ y => ?_) (fun _ y => ?_) (fun y => absurd z32 y) (fun y => absurd z32 y)
            · refine e68 (fun me => y ?_) _
              have := congrArg List.length me
              unfold MK tL at this
              rw [ltr_len, ltr_len] at this
              omega
            · exact cmp (by omega) (ks (m + 1) - 1 - ks m) 0 (by omega) (fun j hj => by omega)
          | succ d ihd =>
            intro i hi j5 j6
            have li := ks_l m (by omega) i (by omega) (by omega)
            have li1 := li.1
            have n32 : ¬ (zstr 2001).getD ((ks m + i : Nat) : Int).toNat 0 = 32 := by
              rw [Int.toNat_natCast]
              show ¬ ZZ (ks m + i) = 32
              omega
            exact g_M_inWords_25 (by omega) (fun y => absurd y n32) (fun y => absurd y n32) (fun y => absurd y n32) (fun y => absurd y n32) (fun _ => by omega) (fun _ => ihd (i + 1) (by omega) j5 j6)
        exact g_M_inWords_14 (fun c => by omega) (fun _ => scan (ks (m + 1) - 1 - ks m) 0 (by omega) j5 j6)
    refine g_M_inWords_0 (fun _ => out 22 0 _ _ _ rfl (fun j hj => by omega)) (fun c => by omega)
  · rw [tW_n K1] at k
    exact g_M_inWords_0 (fun c => by omega) (fun _ => k)
