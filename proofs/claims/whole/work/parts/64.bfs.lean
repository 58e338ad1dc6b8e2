/-- a board joins: what the four writes make of the tables -/
theorem jn {h1 : HP} {idx q : Nat} {v w x : Int} {h2 : HP} (e : h2 = hs (hs (hs (hs h1 84 idx v) 88 idx w) 87 q x) 82 6 (h1 82 6 + 1)) : (∀ k, k ≠ 82 → k ≠ 84 → k ≠ 87 → k ≠ 88 → h2 k = h1 k) ∧ (∀ j, h2 84 j = if j = idx then v else h1 84 j) ∧ (∀ j, h2 88 j = if j = idx then w else h1 88 j) ∧ (∀ j, h2 87 j = if j = q then x else h1 87 j) ∧ h2 82 6 = h1 82 6 + 1 := by
  subst e
  refine ⟨fun k a b c d => by rw [hs_ne a, hs_ne c, hs_ne d, hs_ne b], fun j => ?_, fun j => ?_, fun j => ?_, hs_s⟩
  · rw [hs_ne (by decide), hs_ne (by decide), hs_ne (by decide)]
    by_cases z : j = idx
    · rw [if_pos z, z, hs_s]
    · rw [if_neg z, hs_o (Or.inr z)]
  · rw [hs_ne (by decide), hs_ne (by decide)]
    by_cases z : j = idx
    · rw [if_pos z, z, hs_s]
    · rw [if_neg z, hs_o (Or.inr z), hs_ne (by decide)]
  · rw [hs_ne (by decide)]
    by_cases z : j = q
    · rw [if_pos z, z, hs_s]
    · rw [if_neg z, hs_o (Or.inr z), hs_ne (by decide), hs_ne (by decide)]
theorem Bfs_add {R : HP} (W : WR R) {l : Int} {h h1 h2 : HP} {nx : Int} {i0 a b c r : Nat} (hpos : ∀ c r, SL R l c r → 0 ≤ h 84 (9 * r + c)) (I : Bfs R l h h1 nx) (e0 : (i0 : Int) = nx) (hi : (i0 : Int) < h1 82 6) (hab : isB R a b) (hq : h1 87 i0 = ((9 * b + a : Nat) : Int)) (hb : isB R c r) (hn : nb a b c r) (hl : ¬ 0 ≤ h1 84 (9 * r + c))
    (e : h2 = hs (hs (hs (hs h1 84 (9 * r + c) (h1 84 (9 * b + a))) 88 (9 * r + c) (h1 88 (9 * b + a) + 1)) 87 (h1 82 6).toNat ((9 * r + c : Nat) : Int)) 82 6 (h1 82 6 + 1)) : Bfs R l h h2 nx := by
  have w := W.1
  obtain ⟨f0, A84, A88, A87, A6⟩ := jn e
  obtain ⟨I1, I2, I3, I4, I5, I6, I7, I8, I9⟩ := I
  have lt : ∀ c r, isB R c r → 9 * r + c < 63 := fun c r q => by have := q.1; have := q.2; omega
  have un : ∀ c r c' r', isB R c r → isB R c' r' → 9 * r + c = 9 * r' + c' → c = c' ∧ r = r' := fun c r c' r' q1 q2 e => by have := q1.1; have := q2.1; omega
  have cr := cnt_rg W (fun c r => 0 ≤ h1 84 (9 * r + c))
  obtain ⟨ca, ra, g1, g2, g3⟩ := I4 i0 hi
  obtain ⟨rfl, rfl⟩ := un a b ca ra hab g1 (by omega)
  have nl : ¬ SL R l c r := fun q => hl (by rw [(I2 c r q).1]; exact hpos c r q)
  have wt : wtW R l 0 c r = 100 := wt1 (fun q => nl ⟨hb, q⟩)
  have old : ∀ c' r', isB R c' r' → 0 ≤ h1 84 (9 * r' + c') → 9 * r' + c' ≠ 9 * r + c := fun c' r' q z y => by rw [y] at z; exact hl z
  have oq : ∀ j : Nat, (j : Int) < h1 82 6 → h2 87 j = h1 87 j ∧ h2 88 (h1 87 j).toNat = h1 88 (h1 87 j).toNat := by
    intro j hj
    obtain ⟨cj, rj, j1, j2, j3⟩ := I4 j hj
    refine ⟨by rw [A87, if_neg (by omega)], ?_⟩
    rw [j2, Int.toNat_natCast, A88, if_neg (old cj rj j1 j3)]
  have nq : h2 87 (h1 82 6).toNat = ((9 * r + c : Nat) : Int) := by rw [A87, if_pos rfl]
  have nc : h2 88 (9 * r + c) = h1 88 (9 * b + a) + 1 := by rw [A88, if_pos rfl]
  have cq : h1 88 (h1 87 i0).toNat = h1 88 (9 * b + a) := by rw [hq, Int.toNat_natCast]
  refine ⟨fun k k1 k2 k3 k4 => (f0 k k1 k2 k3 k4).trans (I1 k k1 k2 k3 k4), fun c' r' q => ?_, fun c' r' q z => ?_, fun j hj => ?_, fun c' r' q z => ?_, ?_, fun i j hij hj => ?_, fun i j ei hi' hj => ?_, fun i hi' c1 r1 c' r' q1 q2 q3 q4 => ?_⟩
  · have ne : 9 * r' + c' ≠ 9 * r + c := fun y => nl (by obtain ⟨rfl, rfl⟩ := un c' r' c r q.1 hb y; exact q)
    rw [A84, A88, if_neg ne, if_neg ne]
    exact I2 c' r' q
  · rw [A6]
    by_cases y : 9 * r' + c' = 9 * r + c
    · obtain ⟨rfl, rfl⟩ := un c' r' c r q hb y
      have i3 := I3 a b hab g3
      obtain ⟨x, yy, x1, x2, x3⟩ := i3.2.2
      rw [A84, A88, if_pos rfl, if_pos rfl]
      refine ⟨by omega, by omega, x, yy, x1, x2, ?_⟩
      have := Pth_s x3 trivial hn hb
      rw [wt, show 100 * h1 88 (9 * b + a) + 100 = 100 * (h1 88 (9 * b + a) + 1) by omega] at this
      exact this
    · rw [A84, if_neg y] at z
      rw [A84, A88, if_neg y, if_neg y]
      have := I3 c' r' q z
      exact ⟨this.1, by omega, this.2.2⟩
  · rw [A6] at hj
    by_cases y : j = (h1 82 6).toNat
    · refine ⟨c, r, hb, by rw [y]; exact nq, ?_⟩
      rw [A84, if_pos rfl]; exact g3
    · obtain ⟨cj, rj, j1, j2, j3⟩ := I4 j (by omega)
      exact ⟨cj, rj, j1, by rw [(oq j (by omega)).1]; exact j2, by rw [A84, if_neg (old cj rj j1 j3)]; exact j3⟩
  · rw [A6]
    by_cases y : 9 * r' + c' = 9 * r + c
    · exact ⟨(h1 82 6).toNat, by omega, by rw [nq, y]⟩
    · rw [A84, if_neg y] at z
      obtain ⟨j, j1, j2⟩ := I5 c' r' q z
      exact ⟨j, by omega, by rw [(oq j j1).1]; exact j2⟩
  · refine A6.trans ?_
    rw [I6]
    symm
    apply cnt_upd hb hl
    intro c' r' q
    rw [A84]
    by_cases y : 9 * r' + c' = 9 * r + c
    · rw [if_pos y]; exact ⟨fun _ => Or.inr (un c' r' c r q hb y), fun _ => g3⟩
    · rw [if_neg y]; exact ⟨fun z => Or.inl z, fun z => z.elim (fun u => u) (fun u => absurd (by rw [u.1, u.2]) y)⟩
  · rw [A6] at hj
    by_cases y : j = (h1 82 6).toNat
    · by_cases y2 : i = (h1 82 6).toNat
      · rw [y, y2]; exact Int.le_refl _
      · have o := oq i (by omega)
        rw [o.1, o.2, y, nq, Int.toNat_natCast, nc]
        have := I8 i0 i e0 hi (by omega)
        omega
    · have o := oq i (by omega)
      have o2 := oq j (by omega)
      rw [o.1, o.2, o2.1, o2.2]
      exact I7 i j hij (by omega)
  · rw [A6] at hi' hj
    have ii : i = i0 := by omega
    subst ii
    have o := oq i hi
    rw [o.1, o.2]
    by_cases y : j = (h1 82 6).toNat
    · rw [y, nq, Int.toNat_natCast, nc, cq]; exact Int.le_refl _
    · have o2 := oq j (by omega)
      rw [o2.1, o2.2]
      exact I8 i j ei hi (by omega)
  · have o := oq i (by omega)
    rw [o.1] at q2
    obtain ⟨cj, rj, j1, j2, j3⟩ := I4 i (by omega)
    obtain ⟨rfl, rfl⟩ := un c1 r1 cj rj q1 j1 (by omega)
    have z := I9 i hi' c1 r1 c' r' q1 q2 q3 q4
    have n1 := old c' r' q3 z.1
    have n2 := old c1 r1 q1 j3
    rw [A84, A88, A88, if_neg n1, if_neg n1, if_neg n2]
    exact z
theorem c_Is_spread85 {Q : PQ} {h h0 R : HP} {x2 : Int} {f1 : Nat} (h_f1 : isF f1) (eR : rmC h f1 = R) (W : WR R) (hpos : ∀ c r, SL R x2 c r → 0 ≤ h 84 (9 * r + c)) (I0 : Bfs R x2 h h0 0) (some1 : ∃ c r, SL R x2 c r) (j4 j5 : AV)
    (k : ∀ h', (∀ k, k ≠ 82 → k ≠ 84 → k ≠ 87 → k ≠ 88 → h' k = h k) → Vor R x2 (fun c r => h 84 (9 * r + c)) (fun c r => h' 84 (9 * r + c)) (fun c r => h' 88 (9 * r + c)) → (∀ j : Nat, (j : Int) < h' 82 6 → ∃ c r, isB R c r ∧ h' 87 j = ((9 * r + c : Nat) : Int)) → (∀ c r, isB R c r → ∃ j : Nat, (j : Int) < h' 82 6 ∧ h' 87 j = ((9 * r + c : Nat) : Int)) → (0 ≤ h' 82 6 ∧ h' 82 6 ≤ 63) → Q none h') :
    Wp true i_Is_spreadIsles 85 [vr 82, vr f1, vi x2, vi 0, j4, j5] [] h0 Q := by
  have w := W.1
  have fl : f1 + 8 ≤ 82 := by unfold isF at h_f1; omega
  have lt : ∀ c r, isB R c r → 9 * r + c < 63 := fun c r q => by have := q.1; have := q.2; omega
  have un : ∀ c r c' r', isB R c r → isB R c' r' → 9 * r + c = 9 * r' + c' → c = c' ∧ r = r' := fun c r c' r' q1 q2 e => by have := q1.1; have := q2.1; omega
  have fr : ∀ h1 n, Bfs R x2 h h1 n → rmC h1 f1 = R := fun h1 n I => (rC_frame h_f1 (fun k hk => I.1 k (by omega) (by omega) (by omega) (by omega))).trans eR
  have qr : ∀ h1 n, Bfs R x2 h h1 n → 0 ≤ h1 82 6 ∧ h1 82 6 ≤ 63 := fun h1 n I => by rw [I.2.2.2.2.2.1]; exact cnt_rg W _
  have sides : ∀ (d : Nat) (s : Int) (m : Nat) (h1 : HP) (j5 : AV), 0 ≤ s → s + d = 4 → Bfs R x2 h h1 (m : Int) → (m : Int) < h1 82 6 →
      (∀ s', 0 ≤ s' → s' < s → ∀ c' r', isB R c' r' → bs R (h1 87 m) s' = ((9 * r' + c' : Nat) : Int) → 0 ≤ h1 84 (9 * r' + c') ∧ h1 88 (9 * r' + c') ≤ h1 88 (h1 87 m).toNat + 1) →
      (∀ (h2 : HP) (j4 j5 : AV), Bfs R x2 h h2 ((m : Int) + 1) → (m : Int) + 1 ≤ h2 82 6 → Wp true i_Is_spreadIsles 85 [vr 82, vr f1, vi x2, vi ((m : Int) + 1), j4, j5] [] h2 Q) →
      Wp true i_Is_spreadIsles 96 [vr 82, vr f1, vi x2, vi (m : Int), vi s, j5] [] h1 Q := by
    intro d
    induction d with
    | zero =>
      intro s m h1 j5 s0 e I hm pr kk
      have rr := qr h1 _ I
      obtain ⟨I1, I2, I3, I4, I5, I6, I7, I8, I9⟩ := I
      have fin : Wp true i_Is_spreadIsles 85 [vr 82, vr f1, vi x2, vi ((m : Int) + 1), vi s, j5] [] h1 Q := by
        refine kk h1 _ _ ⟨I1, I2, I3, I4, I5, I6, I7, fun i j ei hi hj => ?_, fun i hi c r c' r' q1 q2 q3 q4 => ?_⟩ (by omega)
        · have a1 := I8 m j rfl hm hj
          have a2 := I7 m i (by omega) hi
          omega
        · by_cases z : (i : Int) < m
          · exact I9 i z c r c' r' q1 q2 q3 q4
          · have z : i = m := by omega
            subst z
            obtain ⟨s', s1, s2⟩ := nb_bs W q1 q3 q4
            rw [← q2] at s2
            have := pr s' s1.1 (by omega) c' r' q3 s2
            rw [q2, Int.toNat_natCast] at this
            exact this
      refine g_Is_spreadIsles_96 h_f1 ?_ ?_ ?_ ?_ ?_ ?_ ?_ ?_ ?_ ?_ ?_ ?_ ?_ ?_ ?_ ?_
      · intro c1; (try simp only [Int.toNat_natCast] at c1); first | omega | (exfalso; omega) | exact ⟨by omega, by omega⟩ | (omega) | exact absurd trivial ‹¬ True›
      · intro c1; (try simp only [Int.toNat_natCast] at c1); first | (exfalso; omega) | exact absurd trivial ‹¬ True› | (exact fin)
      · intro c1; (try simp only [Int.toNat_natCast] at c1); first | omega | (exfalso; omega) | exact ⟨by omega, by omega⟩ | (omega) | exact absurd trivial ‹¬ True›
      · intro c1; (try simp only [Int.toNat_natCast] at c1); first | omega | (exfalso; omega) | exact ⟨by omega, by omega⟩ | (omega) | exact absurd trivial ‹¬ True›
      · intro c1; (try simp only [Int.toNat_natCast] at c1); first | omega | (exfalso; omega) | exact ⟨by omega, by omega⟩ | (omega) | exact absurd trivial ‹¬ True›
      · intro c1 c2; (try simp only [Int.toNat_natCast] at c1 c2); first | omega | (exfalso; omega) | exact ⟨by omega, by omega⟩ | (omega) | exact absurd trivial ‹¬ True›
      · intro c1 c2; (try simp only [Int.toNat_natCast] at c1 c2); first | (exfalso; omega) | exact absurd trivial ‹¬ True› | (skip)
      · intro c1 c2; (try simp only [Int.toNat_natCast] at c1 c2); first | omega | (exfalso; omega) | exact ⟨by omega, by omega⟩ | (omega) | exact absurd trivial ‹¬ True›
      · intro c1 c2 c3; (try simp only [Int.toNat_natCast] at c1 c2 c3); first | omega | (exfalso; omega) | exact ⟨by omega, by omega⟩ | (omega) | exact absurd trivial ‹¬ True›
      · intro c1 c2 c3; (try simp only [Int.toNat_natCast] at c1 c2 c3); first | (exfalso; omega) | exact absurd trivial ‹¬ True› | (skip)
      · intro c1 c2 c3; (try simp only [Int.toNat_natCast] at c1 c2 c3); first | omega | (exfalso; omega) | exact ⟨by omega, by omega⟩ | (omega) | exact absurd trivial ‹¬ True›
      · intro c1 c2 c3; (try simp only [Int.toNat_natCast] at c1 c2 c3); first | omega | (exfalso; omega) | exact ⟨by omega, by omega⟩ | (omega) | exact absurd trivial ‹¬ True›
      · intro c1 c2 c3; (try simp only [Int.toNat_natCast] at c1 c2 c3); first | omega | (exfalso; omega) | exact ⟨by omega, by omega⟩ | (omega) | exact absurd trivial ‹¬ True›
      · intro c1 c2 c3; (try simp only [Int.toNat_natCast] at c1 c2 c3); first | omega | (exfalso; omega) | exact ⟨by omega, by omega⟩ | (omega) | exact absurd trivial ‹¬ True›
      · intro c1 c2 c3; (try simp only [Int.toNat_natCast] at c1 c2 c3); first | omega | (exfalso; omega) | exact ⟨by omega, by omega⟩ | (omega) | exact absurd trivial ‹¬ True›
      · intro c1 c2 c3; (try simp only [Int.toNat_natCast] at c1 c2 c3); first | (exfalso; omega) | exact absurd trivial ‹¬ True› | (skip)
    | succ d ih =>
      intro s m h1 j5 s0 e I hm pr kk
      have rr := qr h1 _ I
      have e1 := fr h1 _ I
      obtain ⟨a, b, g1, g2, g3⟩ := I.2.2.2.1 m hm
      have gl := lt a b g1
      have i3 := I.2.2.1 a b g1 g3
      have em : ((m : Int)).toNat = m := Int.toNat_natCast m
      have qE : h1 87 ((m : Int)).toNat = ((9 * b + a : Nat) : Int) := by rw [em]; exact g2
      have en0 : (((9 * b + a : Nat) : Int)).toNat = 9 * b + a := Int.toNat_natCast _
      rw [g2, en0] at pr
      have next : ∀ j5, (∀ c' r', isB R c' r' → bs R ((9 * b + a : Nat) : Int) s = ((9 * r' + c' : Nat) : Int) → 0 ≤ h1 84 (9 * r' + c') ∧ h1 88 (9 * r' + c') ≤ h1 88 (9 * b + a) + 1) → Wp true i_Is_spreadIsles 96 [vr 82, vr f1, vi x2, vi (m : Int), vi (s + 1), j5] [] h1 Q := by
        intro j5 hq
        refine ih (s + 1) m h1 j5 (by omega) (by omega) I hm (fun s' s1 s2 c' r' q1 q2 => ?_) kk
        rw [g2] at q2 ⊢
        rw [en0]
        by_cases z : s' < s
        · exact pr s' s1 z c' r' q1 q2
        · have z : s' = s := by omega
          rw [z] at q2
          exact hq c' r' q1 q2
      rcases bs_nb W g1 (s := s) (by omega) with z | ⟨cc, rr', n1, n2, n3⟩
      · have z' : bs (rmC h1 f1) (h1 87 ((m : Int)).toNat) s = -1 := by rw [e1, qE]; exact z
        have z2 : bs (rmC h1 f1) (h1 87 m) s = -1 := by rw [e1, g2]; exact z
        have nx := fun j5 => next j5 (fun c' r' q1 q2 => by rw [z] at q2; omega)
        refine g_Is_spreadIsles_96 h_f1 ?_ ?_ ?_ ?_ ?_ ?_ ?_ ?_ ?_ ?_ ?_ ?_ ?_ ?_ ?_ ?_
        · intro c1; (try simp only [Int.toNat_natCast] at c1); first | omega | (exfalso; omega) | exact ⟨by omega, by omega⟩ | (omega) | exact absurd trivial ‹¬ True›
        · intro c1; (try simp only [Int.toNat_natCast] at c1); first | (exfalso; omega) | exact absurd trivial ‹¬ True› | (skip)
        · intro c1; (try simp only [Int.toNat_natCast] at c1); first | omega | (exfalso; omega) | exact ⟨by omega, by omega⟩ | (omega) | exact absurd trivial ‹¬ True›
        · intro c1; (try simp only [Int.toNat_natCast] at c1); first | omega | (exfalso; omega) | exact ⟨by omega, by omega⟩ | (omega) | exact absurd trivial ‹¬ True›
        · intro c1; (try simp only [Int.toNat_natCast] at c1); first | omega | (exfalso; omega) | exact ⟨by omega, by omega⟩ | (omega) | exact absurd trivial ‹¬ True›
        · intro c1 c2; (try simp only [Int.toNat_natCast] at c1 c2); first | omega | (exfalso; omega) | exact ⟨by omega, by omega⟩ | (omega) | exact absurd trivial ‹¬ True›
        · intro c1 c2; (try simp only [Int.toNat_natCast] at c1 c2); first | (exfalso; omega) | exact absurd trivial ‹¬ True› | (exact nx _)
        · intro c1 c2; (try simp only [Int.toNat_natCast] at c1 c2); first | omega | (exfalso; omega) | exact ⟨by omega, by omega⟩ | (omega) | exact absurd trivial ‹¬ True›
        · intro c1 c2 c3; (try simp only [Int.toNat_natCast] at c1 c2 c3); first | omega | (exfalso; omega) | exact ⟨by omega, by omega⟩ | (omega) | exact absurd trivial ‹¬ True›
        · intro c1 c2 c3; (try simp only [Int.toNat_natCast] at c1 c2 c3); first | (exfalso; omega) | exact absurd trivial ‹¬ True› | (skip)
        · intro c1 c2 c3; (try simp only [Int.toNat_natCast] at c1 c2 c3); first | omega | (exfalso; omega) | exact ⟨by omega, by omega⟩ | (omega) | exact absurd trivial ‹¬ True›
        · intro c1 c2 c3; (try simp only [Int.toNat_natCast] at c1 c2 c3); first | omega | (exfalso; omega) | exact ⟨by omega, by omega⟩ | (omega) | exact absurd trivial ‹¬ True›
        · intro c1 c2 c3; (try simp only [Int.toNat_natCast] at c1 c2 c3); first | omega | (exfalso; omega) | exact ⟨by omega, by omega⟩ | (omega) | exact absurd trivial ‹¬ True›
        · intro c1 c2 c3; (try simp only [Int.toNat_natCast] at c1 c2 c3); first | omega | (exfalso; omega) | exact ⟨by omega, by omega⟩ | (omega) | exact absurd trivial ‹¬ True›
        · intro c1 c2 c3; (try simp only [Int.toNat_natCast] at c1 c2 c3); first | omega | (exfalso; omega) | exact ⟨by omega, by omega⟩ | (omega) | exact absurd trivial ‹¬ True›
        · intro c1 c2 c3; (try simp only [Int.toNat_natCast] at c1 c2 c3); first | (exfalso; omega) | exact absurd trivial ‹¬ True› | (skip)
      · have nl := lt cc rr' n2
        have z' : bs (rmC h1 f1) (h1 87 ((m : Int)).toNat) s = ((9 * rr' + cc : Nat) : Int) := by rw [e1, qE]; exact n3
        have z2 : bs (rmC h1 f1) (h1 87 m) s = ((9 * rr' + cc : Nat) : Int) := by rw [e1, g2]; exact n3
        have en : (((9 * rr' + cc : Nat) : Int)).toNat = 9 * rr' + cc := Int.toNat_natCast _
        have lt63 : ¬ 0 ≤ h1 84 (9 * rr' + cc) → h1 82 6 < 63 := fun q => by
          rw [I.2.2.2.2.2.1]
          exact cnt_lt W n2 q
        have cE : h1 88 (h1 87 ((m : Int)).toNat).toNat = h1 88 (9 * b + a) := by rw [qE, en0]
        refine g_Is_spreadIsles_96 h_f1 ?_ ?_ ?_ ?_ ?_ ?_ ?_ ?_ ?_ ?_ ?_ ?_ ?_ ?_ ?_ ?_
        · intro c1; (try simp only [Int.toNat_natCast] at c1); first | omega | (exfalso; omega) | exact ⟨by omega, by omega⟩ | (first | (rw [z2, en] at c3; exact ⟨rr.1, lt63 c3⟩) | (rw [cE]; omega)) | exact absurd trivial ‹¬ True›
        · intro c1; (try simp only [Int.toNat_natCast] at c1); first | (exfalso; omega) | exact absurd trivial ‹¬ True› | (skip)
        · intro c1; (try simp only [Int.toNat_natCast] at c1); first | omega | (exfalso; omega) | exact ⟨by omega, by omega⟩ | (first | (rw [z2, en] at c3; exact ⟨rr.1, lt63 c3⟩) | (rw [cE]; omega)) | exact absurd trivial ‹¬ True›
        · intro c1; (try simp only [Int.toNat_natCast] at c1); first | omega | (exfalso; omega) | exact ⟨by omega, by omega⟩ | (first | (rw [z2, en] at c3; exact ⟨rr.1, lt63 c3⟩) | (rw [cE]; omega)) | exact absurd trivial ‹¬ True›
        · intro c1; (try simp only [Int.toNat_natCast] at c1); first | omega | (exfalso; omega) | exact ⟨by omega, by omega⟩ | (first | (rw [z2, en] at c3; exact ⟨rr.1, lt63 c3⟩) | (rw [cE]; omega)) | exact absurd trivial ‹¬ True›
        · intro c1 c2; (try simp only [Int.toNat_natCast] at c1 c2); first | omega | (exfalso; omega) | exact ⟨by omega, by omega⟩ | (first | (rw [z2, en] at c3; exact ⟨rr.1, lt63 c3⟩) | (rw [cE]; omega)) | exact absurd trivial ‹¬ True›
        · intro c1 c2; (try simp only [Int.toNat_natCast] at c1 c2); first | (exfalso; omega) | exact absurd trivial ‹¬ True› | (skip)
        · intro c1 c2; (try simp only [Int.toNat_natCast] at c1 c2); first | omega | (exfalso; omega) | exact ⟨by omega, by omega⟩ | (first | (rw [z2, en] at c3; exact ⟨rr.1, lt63 c3⟩) | (rw [cE]; omega)) | exact absurd trivial ‹¬ True›
        · intro c1 c2 c3; (try simp only [Int.toNat_natCast] at c1 c2 c3); first | omega | (exfalso; omega) | exact ⟨by omega, by omega⟩ | (first | (rw [z2, en] at c3; exact ⟨rr.1, lt63 c3⟩) | (rw [cE]; omega)) | exact absurd trivial ‹¬ True›
        · intro c1 c2 c3; (try simp only [Int.toNat_natCast] at c1 c2 c3)
          rw [z2, en] at c3
          refine next _ (fun c' r' q1 q2 => ?_)
          rw [n3] at q2
          obtain ⟨rfl, rfl⟩ := un c' r' cc rr' q1 n2 (by omega)
          refine ⟨c3, ?_⟩
          obtain ⟨j, j1, j2⟩ := I.2.2.2.2.1 c' r' q1 c3
          have := I.2.2.2.2.2.2.2.1 m j rfl hm j1
          rw [j2, g2, en, en0] at this
          exact this
        · intro c1 c2 c3; (try simp only [Int.toNat_natCast] at c1 c2 c3); first | omega | (exfalso; omega) | exact ⟨by omega, by omega⟩ | (first | (rw [z2, en] at c3; exact ⟨rr.1, lt63 c3⟩) | (rw [cE]; omega)) | exact absurd trivial ‹¬ True›
        · intro c1 c2 c3; (try simp only [Int.toNat_natCast] at c1 c2 c3); first | omega | (exfalso; omega) | exact ⟨by omega, by omega⟩ | (first | (rw [z2, en] at c3; exact ⟨rr.1, lt63 c3⟩) | (rw [cE]; omega)) | exact absurd trivial ‹¬ True›
        · intro c1 c2 c3; (try simp only [Int.toNat_natCast] at c1 c2 c3); first | omega | (exfalso; omega) | exact ⟨by omega, by omega⟩ | (first | (rw [z2, en] at c3; exact ⟨rr.1, lt63 c3⟩) | (rw [cE]; omega)) | exact absurd trivial ‹¬ True›
        · intro c1 c2 c3; (try simp only [Int.toNat_natCast] at c1 c2 c3); first | omega | (exfalso; omega) | exact ⟨by omega, by omega⟩ | (first | (rw [z2, en] at c3; exact ⟨rr.1, lt63 c3⟩) | (rw [cE]; omega)) | exact absurd trivial ‹¬ True›
        · intro c1 c2 c3; (try simp only [Int.toNat_natCast] at c1 c2 c3); first | omega | (exfalso; omega) | exact ⟨by omega, by omega⟩ | (first | (rw [z2, en] at c3; exact ⟨rr.1, lt63 c3⟩) | (rw [cE]; omega)) | exact absurd trivial ‹¬ True›
        · intro c1 c2 c3; (try simp only [Int.toNat_natCast] at c1 c2 c3)
          rw [z2, en] at c3
          rw [z', qE, en, en0]
          obtain ⟨h2, eh2⟩ : ∃ h2, h2 = hs (hs (hs (hs h1 84 (9 * rr' + cc) (h1 84 (9 * b + a))) 88 (9 * rr' + cc) (h1 88 (9 * b + a) + 1)) 87 (h1 82 6).toNat ((9 * rr' + cc : Nat) : Int)) 82 6 (h1 82 6 + 1) := ⟨_, rfl⟩
          have I' := Bfs_add W hpos I rfl hm g1 g2 n2 n1 c3 eh2
          obtain ⟨f0, A84, A88, A87, A6⟩ := jn eh2
          rw [← eh2]
          have neb : 9 * b + a ≠ 9 * rr' + cc := fun y => by rw [y] at g3; exact c3 g3
          refine ih (s + 1) m h2 _ (by omega) (by omega) I' (by omega) (fun s' s1 s2 c' r' q1 q2 => ?_) kk
          rw [A87, if_neg (by omega), g2] at q2 ⊢
          rw [en0, A84, A88, A88, if_neg neb]
          by_cases y : 9 * r' + c' = 9 * rr' + cc
          · rw [if_pos y, if_pos y]; exact ⟨g3, Int.le_refl _⟩
          · rw [if_neg y, if_neg y]
            by_cases z : s' < s
            · exact pr s' s1 z c' r' q1 q2
            · have z : s' = s := by omega
              rw [z, n3] at q2
              exact absurd (by omega) y
  have all : ∀ (d m : Nat) (h1 : HP) (j4 j5 : AV), m + d = 63 → Bfs R x2 h h1 (m : Int) → (m : Int) ≤ h1 82 6 → Wp true i_Is_spreadIsles 85 [vr 82, vr f1, vi x2, vi (m : Int), j4, j5] [] h1 Q := by
    have done : ∀ (m : Nat) (h1 : HP), Bfs R x2 h h1 (m : Int) → (m : Int) = h1 82 6 → Q none h1 := by
      intro m h1 I em
      have rr := qr h1 _ I
      obtain ⟨I1, I2, I3, I4, I5, I6, I7, I8, I9⟩ := I
      have stp : ∀ c r c' r', isB R c r → isB R c' r' → nb c r c' r' → 0 ≤ h1 84 (9 * r + c) → 0 ≤ h1 84 (9 * r' + c') ∧ h1 88 (9 * r' + c') ≤ h1 88 (9 * r + c) + 1 := by
        intro c r c' r' q1 q2 q3 q4
        obtain ⟨j, j1, j2⟩ := I5 c r q1 q4
        exact I9 j (by omega) c r c' r' q1 j2 q2 q3
      have lab : ∀ c r, isB R c r → 0 ≤ h1 84 (9 * r + c) := by
        intro c r hb
        obtain ⟨a, b, sa⟩ := some1
        have p0 : Pth R x2 0 (src a b) Any a b 0 := by
          have := Pth_0 (R := R) (l := x2) (st := 0) (F0 := src a b) (Lv := Any) sa.1 (by rw [src_s]; decide)
          rw [src_s] at this
          exact this
        obtain ⟨dd, d1, -⟩ := walk _ a b c r 0 rfl hb p0
        refine (d1 (fun x y _ => isB R x y ∧ 0 ≤ h1 84 (9 * y + x)) (fun x y bb q => ⟨bb, ?_⟩) (fun x y dd x' y' q lv n bb => ⟨bb, (stp x y x' y' q.1 bb n q.2).1⟩)).2
        by_cases z : x = a ∧ y = b
        · rw [z.1, z.2, (I2 a b sa).1]; exact hpos a b sa
        · exact absurd (src_o z) q
      refine k h1 I1 ⟨I2, fun c r q => ?_, fun c r c' r' q1 q2 q3 q4 => (stp c r c' r' q1 q2 q3 (lab c r q1)).2⟩ (fun j hj => ?_) (fun c r q => I5 c r q (lab c r q)) rr
      · have := I3 c r q (lab c r q)
        exact ⟨this.1, by show h1 88 (9 * r + c) ≤ 63; omega, this.2.2⟩
      · obtain ⟨c, r, j1, j2, -⟩ := I4 j hj
        exact ⟨c, r, j1, j2⟩
    intro d
    induction d with
    | zero =>
      intro m h1 j4 j5 e I hm
      have rr := qr h1 _ I
      exact g_Is_spreadIsles_85 h_f1 (fun _ => done m h1 I (by omega)) (fun q => by omega)
    | succ d ih =>
      intro m h1 j4 j5 e I hm
      refine g_Is_spreadIsles_85 h_f1 (fun _ => done m h1 I (by omega)) (fun q => ?_)
      refine sides 4 0 m h1 j5 (by omega) (by omega) I (by omega) (fun s' s1 s2 => by omega) (fun h2 j4 j5 I2 m2 => ?_)
      have := ih (m + 1) h2 j4 j5 (by omega) (by rw [show ((m + 1 : Nat) : Int) = (m : Int) + 1 by omega]; exact I2) (by omega)
      rw [show ((m + 1 : Nat) : Int) = (m : Int) + 1 by omega] at this
      exact this
  exact all 63 0 h0 j4 j5 rfl I0 (qr h0 _ I0).1
