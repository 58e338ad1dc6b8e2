/-! ===== THE LAW, from its loop on ===== -/
theorem wp_rk (b : Bool) : ∀ (n mi pc : Nat) (ls st : List AV) (h : HP) (Q : PQ), mi < 381 → wp b n mi pc ls st h Q → ∃ r h' pc', Q r h' ∧ rkind mi r pc' := by
  intro n
  induction n with
  | zero => intro mi pc ls st h Q _ hw; exact hw.elim
  | succ n ih =>
    intro mi pc ls st h Q hm hw
    unfold wp at hw
    cases hsx : sx b mi pc ls st h with
    | none => rw [hsx] at hw; exact hw.elim
    | some r =>
      rw [hsx] at hw
      rcases r with ⟨pc', ls', st', h'⟩ | r | ⟨mj, as, st'⟩
      · exact ih mi pc' ls' st' h' Q hm hw
      · exact ⟨r, h, pc, hw, (sx_ret hm hsx).1⟩
      · obtain ⟨r1, h1, q1, -⟩ := wp_det b n _ _ _ _ _ _ hw
        exact ih mi _ _ _ _ _ hm q1
theorem ag_kind {mi : Nat} {ls : List AV} {h : HP} {v : AV} {Mid : HP → Prop} (hm : mi < 381) (m2 : ∀ Q : PQ, (∀ h1, Mid h1 → Q (some v) h1) → Wp true mi 0 ls [] h Q) : (zmT mi = 2 → ∃ z, v = vj z) ∧ (zmT mi ≠ 2 → ∃ z, v = vi z) := by
  obtain ⟨k, hk⟩ := m2 (fun r _ => r = some v) (fun _ _ => rfl)
  obtain ⟨r, h', pc', e, rk⟩ := wp_rk true k mi 0 ls [] h _ hm hk
  subst e
  rcases v with z | z | z
  · refine ⟨fun y => ?_, fun _ => ⟨z, rfl⟩⟩
    have := rk.2
    omega
  · exact ⟨fun _ => ⟨z, rfl⟩, fun y => absurd rk.2 y⟩
  · exact rk.elim
def LC (n : Nat) (h : HP) (i : Int) : Prop := Rel n h ∧ n ≤ 600 ∧ (0 ≤ i ∧ i + 6 ≤ h 1001 0) ∧ h 1001 0 ≤ 3072 ∧ ∀ j : Nat, (j : Int) < h 1001 0 → in32 (h 1000 j)
theorem LC_r {n : Nat} {h : HP} {i : Int} (E : LC n h i) {d : Int} (hd : 0 ≤ d ∧ d < 6) : in32 (h 1000 (i + d).toNat) := E.2.2.2.2 _ (by have := E.2.2.1; omega)

theorem lw_status {Q : PQ} {h : HP} {n : Nat} {x3 : Int} (E : LC n h x3) (K : ∀ h2, Rel (n + 1) h2 → h2 1000 = h 1000 → h2 1001 = h 1001 → Wp true i_L_law 2076 [vr 1000, vr 0, vr 103, vi x3] [] h2 Q) : Wp true i_L_law 296 [vr 1000, vr 0, vr 103, vi x3] [] h Q := by
  have b1 := E.2.2.1
  have b2 := E.2.2.2.1
  obtain ⟨v, Mid, m1, m2, m3⟩ := A_status (h := h)  E.1 
  obtain ⟨z, rfl⟩ := (ag_kind (mi := i_C_status) (by decide) m2).2 (by decide)
  refine g_L_law_296 (m2 _ (fun h1 mid => ?_))
  have e0 := (m1 h1 mid).1
  have e1 : h1 1001 0 = h 1001 0 := by rw [(m1 h1 mid).2]
  refine g_L_law_300 ?_
  exact m3 h1 _ mid (fun h2 r2 f0 f1 => g_L_law_304 (fun _ => K h2 r2 f0 f1) (fun q => absurd rfl q))

theorem lw_top {Q : PQ} {h : HP} {n : Nat} {x3 : Int} (E : LC n h x3) (K : ∀ h2, Rel (n + 1) h2 → h2 1000 = h 1000 → h2 1001 = h 1001 → Wp true i_L_law 2076 [vr 1000, vr 0, vr 103, vi x3] [] h2 Q) : Wp true i_L_law 309 [vr 1000, vr 0, vr 103, vi x3] [] h Q := by
  have b1 := E.2.2.1
  have b2 := E.2.2.2.1
  obtain ⟨v, Mid, m1, m2, m3⟩ := A_top (h := h)  E.1 
  obtain ⟨z, rfl⟩ := (ag_kind (mi := i_C_top) (by decide) m2).1 rfl
  refine g_L_law_309 (m2 _ (fun h1 mid => ?_))
  have e0 := (m1 h1 mid).1
  have e1 : h1 1001 0 = h 1001 0 := by rw [(m1 h1 mid).2]
  refine g_L_law_313 ?_
  exact m3 h1 _ mid (fun h2 r2 f0 f1 => g_L_law_317 (fun _ => K h2 r2 f0 f1) (fun q => absurd rfl q))

theorem lw_bottom {Q : PQ} {h : HP} {n : Nat} {x3 : Int} (E : LC n h x3) (K : ∀ h2, Rel (n + 1) h2 → h2 1000 = h 1000 → h2 1001 = h 1001 → Wp true i_L_law 2076 [vr 1000, vr 0, vr 103, vi x3] [] h2 Q) : Wp true i_L_law 323 [vr 1000, vr 0, vr 103, vi x3] [] h Q := by
  have b1 := E.2.2.1
  have b2 := E.2.2.2.1
  obtain ⟨v, Mid, m1, m2, m3⟩ := A_bottom (h := h)  E.1 
  obtain ⟨z, rfl⟩ := (ag_kind (mi := i_C_bottom) (by decide) m2).1 rfl
  refine g_L_law_323 (m2 _ (fun h1 mid => ?_))
  have e0 := (m1 h1 mid).1
  have e1 : h1 1001 0 = h 1001 0 := by rw [(m1 h1 mid).2]
  refine g_L_law_327 ?_
  exact m3 h1 _ mid (fun h2 r2 f0 f1 => g_L_law_331 (fun _ => K h2 r2 f0 f1) (fun q => absurd rfl q))

theorem lw_tray {Q : PQ} {h : HP} {n : Nat} {x3 : Int} (E : LC n h x3) (K : ∀ h2, Rel (n + 1) h2 → h2 1000 = h 1000 → h2 1001 = h 1001 → Wp true i_L_law 2076 [vr 1000, vr 0, vr 103, vi x3] [] h2 Q) : Wp true i_L_law 337 [vr 1000, vr 0, vr 103, vi x3] [] h Q := by
  have b1 := E.2.2.1
  have b2 := E.2.2.2.1
  obtain ⟨v, Mid, m1, m2, m3⟩ := A_tray (h := h) (x1 := (h 1000 (x3 + 1).toNat)) (x2 := (h 1000 (x3 + 2).toNat)) (x3 := (h 1000 (x3 + 3).toNat)) E.1 
  obtain ⟨z, rfl⟩ := (ag_kind (mi := i_C_tray) (by decide) m2).2 (by decide)
  refine g_L_law_337 (by omega) (by omega) (by omega) (by omega) (by omega) (by omega) (m2 _ (fun h1 mid => ?_))
  have e0 := (m1 h1 mid).1
  have e1 : h1 1001 0 = h 1001 0 := by rw [(m1 h1 mid).2]
  refine g_L_law_356 (by omega) (by omega) (by omega) (by omega) (by omega) (by omega) ?_
  rw [e0]
  exact m3 h1 _ mid (fun h2 r2 f0 f1 => g_L_law_375 (fun _ => K h2 r2 f0 f1) (fun q => absurd rfl q))

theorem lw_write {Q : PQ} {h : HP} {n : Nat} {x3 : Int} (E : LC n h x3) (K : ∀ h2, Rel (n + 1) h2 → h2 1000 = h 1000 → h2 1001 = h 1001 → Wp true i_L_law 2076 [vr 1000, vr 0, vr 103, vi x3] [] h2 Q) : Wp true i_L_law 380 [vr 1000, vr 0, vr 103, vi x3] [] h Q := by
  have b1 := E.2.2.1
  have b2 := E.2.2.2.1
  obtain ⟨v, Mid, m1, m2, m3⟩ := A_write (h := h) (x1 := (h 1000 (x3 + 1).toNat)) (x2 := (h 1000 (x3 + 2).toNat)) (y3 := (o_lor (o_lshl (h 1000 (x3 + 3).toNat) 32) (o_land (h 1000 (x3 + 4).toNat) 4294967295))) E.1 (LC_r E (d := 2) (by decide))
  obtain ⟨z, rfl⟩ := (ag_kind (mi := i_C_write) (by decide) m2).2 (by decide)
  refine g_L_law_380 (by omega) (by omega) (by omega) (by omega) (by omega) (by omega) (by omega) (by omega) (m2 _ (fun h1 mid => ?_))
  have e0 := (m1 h1 mid).1
  have e1 : h1 1001 0 = h 1001 0 := by rw [(m1 h1 mid).2]
  refine g_L_law_414 (by omega) (by omega) (by omega) (by omega) (by omega) (by omega) (by omega) (by omega) ?_
  rw [e0]
  exact m3 h1 _ mid (fun h2 r2 f0 f1 => g_L_law_448 (fun _ => K h2 r2 f0 f1) (fun q => absurd rfl q))

theorem lw_read {Q : PQ} {h : HP} {n : Nat} {x3 : Int} (E : LC n h x3) (K : ∀ h2, Rel (n + 1) h2 → h2 1000 = h 1000 → h2 1001 = h 1001 → Wp true i_L_law 2076 [vr 1000, vr 0, vr 103, vi x3] [] h2 Q) : Wp true i_L_law 453 [vr 1000, vr 0, vr 103, vi x3] [] h Q := by
  have b1 := E.2.2.1
  have b2 := E.2.2.2.1
  obtain ⟨v, Mid, m1, m2, m3⟩ := A_read (h := h) (x1 := (h 1000 (x3 + 1).toNat)) (x2 := (h 1000 (x3 + 2).toNat)) E.1 (LC_r E (d := 2) (by decide))
  obtain ⟨z, rfl⟩ := (ag_kind (mi := i_C_read) (by decide) m2).1 rfl
  refine g_L_law_453 (by omega) (by omega) (by omega) (by omega) (m2 _ (fun h1 mid => ?_))
  have e0 := (m1 h1 mid).1
  have e1 : h1 1001 0 = h 1001 0 := by rw [(m1 h1 mid).2]
  refine g_L_law_467 (by omega) (by omega) (by omega) (by omega) ?_
  rw [e0]
  exact m3 h1 _ mid (fun h2 r2 f0 f1 => g_L_law_481 (fun _ => K h2 r2 f0 f1) (fun q => absurd rfl q))

theorem lw_pour {Q : PQ} {h : HP} {n : Nat} {x3 : Int} (E : LC n h x3) (K : ∀ h2, Rel (n + 1) h2 → h2 1000 = h 1000 → h2 1001 = h 1001 → Wp true i_L_law 2076 [vr 1000, vr 0, vr 103, vi x3] [] h2 Q) : Wp true i_L_law 487 [vr 1000, vr 0, vr 103, vi x3] [] h Q := by
  have b1 := E.2.2.1
  have b2 := E.2.2.2.1
  obtain ⟨v, Mid, m1, m2, m3⟩ := A_pour (h := h) (x1 := (h 1000 (x3 + 1).toNat)) (x2 := (h 1000 (x3 + 2).toNat)) (x3 := (h 1000 (x3 + 3).toNat)) (x4 := (h 1000 (x3 + 4).toNat)) (x5 := (h 1000 (x3 + 5).toNat)) E.1 (LC_r E (d := 2) (by decide)) (LC_r E (d := 4) (by decide)) (LC_r E (d := 5) (by decide))
  obtain ⟨z, rfl⟩ := (ag_kind (mi := i_C_pour) (by decide) m2).2 (by decide)
  refine g_L_law_487 (by omega) (by omega) (by omega) (by omega) (by omega) (by omega) (by omega) (by omega) (by omega) (by omega) (m2 _ (fun h1 mid => ?_))
  have e0 := (m1 h1 mid).1
  have e1 : h1 1001 0 = h 1001 0 := by rw [(m1 h1 mid).2]
  refine g_L_law_516 (by omega) (by omega) (by omega) (by omega) (by omega) (by omega) (by omega) (by omega) (by omega) (by omega) ?_
  rw [e0]
  exact m3 h1 _ mid (fun h2 r2 f0 f1 => g_L_law_545 (fun _ => K h2 r2 f0 f1) (fun q => absurd rfl q))

theorem lw_feed {Q : PQ} {h : HP} {n : Nat} {x3 : Int} (E : LC n h x3) (K : ∀ h2, Rel (n + 1) h2 → h2 1000 = h 1000 → h2 1001 = h 1001 → Wp true i_L_law 2076 [vr 1000, vr 0, vr 103, vi x3] [] h2 Q) : Wp true i_L_law 550 [vr 1000, vr 0, vr 103, vi x3] [] h Q := by
  have b1 := E.2.2.1
  have b2 := E.2.2.2.1
  obtain ⟨v, Mid, m1, m2, m3⟩ := A_feed (h := h) (x1 := (h 1000 (x3 + 1).toNat)) (x2 := (h 1000 (x3 + 2).toNat)) (x3 := (h 1000 (x3 + 3).toNat)) (x4 := (h 1000 (x3 + 4).toNat)) (x5 := (h 1000 (x3 + 5).toNat)) E.1 
  obtain ⟨z, rfl⟩ := (ag_kind (mi := i_C_feed) (by decide) m2).2 (by decide)
  refine g_L_law_550 (by omega) (by omega) (by omega) (by omega) (by omega) (by omega) (by omega) (by omega) (by omega) (by omega) (m2 _ (fun h1 mid => ?_))
  have e0 := (m1 h1 mid).1
  have e1 : h1 1001 0 = h 1001 0 := by rw [(m1 h1 mid).2]
  refine g_L_law_579 (by omega) (by omega) (by omega) (by omega) (by omega) (by omega) (by omega) (by omega) (by omega) (by omega) ?_
  rw [e0]
  exact m3 h1 _ mid (fun h2 r2 f0 f1 => g_L_law_608 (fun _ => K h2 r2 f0 f1) (fun q => absurd rfl q))

theorem lw_room {Q : PQ} {h : HP} {n : Nat} {x3 : Int} (E : LC n h x3) (K : ∀ h2, Rel (n + 1) h2 → h2 1000 = h 1000 → h2 1001 = h 1001 → Wp true i_L_law 2076 [vr 1000, vr 0, vr 103, vi x3] [] h2 Q) : Wp true i_L_law 613 [vr 1000, vr 0, vr 103, vi x3] [] h Q := by
  have b1 := E.2.2.1
  have b2 := E.2.2.2.1
  obtain ⟨v, Mid, m1, m2, m3⟩ := A_room (h := h) (x1 := (h 1000 (x3 + 1).toNat)) E.1 
  obtain ⟨z, rfl⟩ := (ag_kind (mi := i_C_room) (by decide) m2).2 (by decide)
  refine g_L_law_613 (by omega) (by omega) (m2 _ (fun h1 mid => ?_))
  have e0 := (m1 h1 mid).1
  have e1 : h1 1001 0 = h 1001 0 := by rw [(m1 h1 mid).2]
  refine g_L_law_622 (by omega) (by omega) ?_
  rw [e0]
  exact m3 h1 _ mid (fun h2 r2 f0 f1 => g_L_law_631 (fun _ => K h2 r2 f0 f1) (fun q => absurd rfl q))

theorem lw_talks {Q : PQ} {h : HP} {n : Nat} {x3 : Int} (E : LC n h x3) (K : ∀ h2, Rel (n + 1) h2 → h2 1000 = h 1000 → h2 1001 = h 1001 → Wp true i_L_law 2076 [vr 1000, vr 0, vr 103, vi x3] [] h2 Q) : Wp true i_L_law 636 [vr 1000, vr 0, vr 103, vi x3] [] h Q := by
  have b1 := E.2.2.1
  have b2 := E.2.2.2.1
  obtain ⟨v, Mid, m1, m2, m3⟩ := A_talks (h := h) (x1 := (h 1000 (x3 + 1).toNat)) E.1 
  obtain ⟨z, rfl⟩ := (ag_kind (mi := i_C_talks) (by decide) m2).2 (by decide)
  refine g_L_law_636 (by omega) (by omega) (m2 _ (fun h1 mid => ?_))
  have e0 := (m1 h1 mid).1
  have e1 : h1 1001 0 = h 1001 0 := by rw [(m1 h1 mid).2]
  refine g_L_law_645 (by omega) (by omega) ?_
  rw [e0]
  exact m3 h1 _ mid (fun h2 r2 f0 f1 => g_L_law_654 (fun _ => K h2 r2 f0 f1) (fun q => absurd rfl q))

theorem lw_fault {Q : PQ} {h : HP} {n : Nat} {x3 : Int} (E : LC n h x3) (K : ∀ h2, Rel (n + 1) h2 → h2 1000 = h 1000 → h2 1001 = h 1001 → Wp true i_L_law 2076 [vr 1000, vr 0, vr 103, vi x3] [] h2 Q) : Wp true i_L_law 659 [vr 1000, vr 0, vr 103, vi x3] [] h Q := by
  have b1 := E.2.2.1
  have b2 := E.2.2.2.1
  obtain ⟨v, Mid, m1, m2, m3⟩ := A_fault (h := h) (x1 := (h 1000 (x3 + 1).toNat)) E.1 
  obtain ⟨z, rfl⟩ := (ag_kind (mi := i_C_fault) (by decide) m2).2 (by decide)
  refine g_L_law_659 (by omega) (by omega) (m2 _ (fun h1 mid => ?_))
  have e0 := (m1 h1 mid).1
  have e1 : h1 1001 0 = h 1001 0 := by rw [(m1 h1 mid).2]
  refine g_L_law_668 (by omega) (by omega) ?_
  rw [e0]
  exact m3 h1 _ mid (fun h2 r2 f0 f1 => g_L_law_677 (fun _ => K h2 r2 f0 f1) (fun q => absurd rfl q))

theorem lw_told {Q : PQ} {h : HP} {n : Nat} {x3 : Int} (E : LC n h x3) (K : ∀ h2, Rel (n + 1) h2 → h2 1000 = h 1000 → h2 1001 = h 1001 → Wp true i_L_law 2076 [vr 1000, vr 0, vr 103, vi x3] [] h2 Q) : Wp true i_L_law 682 [vr 1000, vr 0, vr 103, vi x3] [] h Q := by
  have b1 := E.2.2.1
  have b2 := E.2.2.2.1
  obtain ⟨v, Mid, m1, m2, m3⟩ := A_told (h := h) (x1 := (h 1000 (x3 + 1).toNat)) E.1 
  obtain ⟨z, rfl⟩ := (ag_kind (mi := i_C_told) (by decide) m2).2 (by decide)
  refine g_L_law_682 (by omega) (by omega) (m2 _ (fun h1 mid => ?_))
  have e0 := (m1 h1 mid).1
  have e1 : h1 1001 0 = h 1001 0 := by rw [(m1 h1 mid).2]
  refine g_L_law_691 (by omega) (by omega) ?_
  rw [e0]
  exact m3 h1 _ mid (fun h2 r2 f0 f1 => g_L_law_700 (fun _ => K h2 r2 f0 f1) (fun q => absurd rfl q))

theorem lw_line {Q : PQ} {h : HP} {n : Nat} {x3 : Int} (E : LC n h x3) (K : ∀ h2, Rel (n + 1) h2 → h2 1000 = h 1000 → h2 1001 = h 1001 → Wp true i_L_law 2076 [vr 1000, vr 0, vr 103, vi x3] [] h2 Q) : Wp true i_L_law 705 [vr 1000, vr 0, vr 103, vi x3] [] h Q := by
  have b1 := E.2.2.1
  have b2 := E.2.2.2.1
  obtain ⟨v, Mid, m1, m2, m3⟩ := A_line (h := h) (x1 := (h 1000 (x3 + 1).toNat)) E.1 
  obtain ⟨z, rfl⟩ := (ag_kind (mi := i_C_line) (by decide) m2).2 (by decide)
  refine g_L_law_705 (by omega) (by omega) (m2 _ (fun h1 mid => ?_))
  have e0 := (m1 h1 mid).1
  have e1 : h1 1001 0 = h 1001 0 := by rw [(m1 h1 mid).2]
  refine g_L_law_714 (by omega) (by omega) ?_
  rw [e0]
  exact m3 h1 _ mid (fun h2 r2 f0 f1 => g_L_law_723 (fun _ => K h2 r2 f0 f1) (fun q => absurd rfl q))

theorem lw_thing {Q : PQ} {h : HP} {n : Nat} {x3 : Int} (E : LC n h x3) (K : ∀ h2, Rel (n + 1) h2 → h2 1000 = h 1000 → h2 1001 = h 1001 → Wp true i_L_law 2076 [vr 1000, vr 0, vr 103, vi x3] [] h2 Q) : Wp true i_L_law 728 [vr 1000, vr 0, vr 103, vi x3] [] h Q := by
  have b1 := E.2.2.1
  have b2 := E.2.2.2.1
  obtain ⟨v, Mid, m1, m2, m3⟩ := A_thing (h := h) (x1 := (h 1000 (x3 + 1).toNat)) (x2 := (h 1000 (x3 + 2).toNat)) E.1 
  obtain ⟨z, rfl⟩ := (ag_kind (mi := i_C_thing) (by decide) m2).2 (by decide)
  refine g_L_law_728 (by omega) (by omega) (by omega) (by omega) (m2 _ (fun h1 mid => ?_))
  have e0 := (m1 h1 mid).1
  have e1 : h1 1001 0 = h 1001 0 := by rw [(m1 h1 mid).2]
  refine g_L_law_742 (by omega) (by omega) (by omega) (by omega) ?_
  rw [e0]
  exact m3 h1 _ mid (fun h2 r2 f0 f1 => g_L_law_756 (fun _ => K h2 r2 f0 f1) (fun q => absurd rfl q))

theorem lw_on {Q : PQ} {h : HP} {n : Nat} {x3 : Int} (E : LC n h x3) (K : ∀ h2, Rel (n + 1) h2 → h2 1000 = h 1000 → h2 1001 = h 1001 → Wp true i_L_law 2076 [vr 1000, vr 0, vr 103, vi x3] [] h2 Q) : Wp true i_L_law 761 [vr 1000, vr 0, vr 103, vi x3] [] h Q := by
  have b1 := E.2.2.1
  have b2 := E.2.2.2.1
  obtain ⟨v, Mid, m1, m2, m3⟩ := A_on (h := h) (x1 := (h 1000 (x3 + 1).toNat)) (x2 := (h 1000 (x3 + 2).toNat)) E.1 
  obtain ⟨z, rfl⟩ := (ag_kind (mi := i_C_on) (by decide) m2).2 (by decide)
  refine g_L_law_761 (by omega) (by omega) (by omega) (by omega) (m2 _ (fun h1 mid => ?_))
  have e0 := (m1 h1 mid).1
  have e1 : h1 1001 0 = h 1001 0 := by rw [(m1 h1 mid).2]
  refine g_L_law_775 (by omega) (by omega) (by omega) (by omega) ?_
  rw [e0]
  exact m3 h1 _ mid (fun h2 r2 f0 f1 => g_L_law_789 (fun _ => K h2 r2 f0 f1) (fun q => absurd rfl q))

theorem lw_land {Q : PQ} {h : HP} {n : Nat} {x3 : Int} (E : LC n h x3) (K : ∀ h2, Rel (n + 1) h2 → h2 1000 = h 1000 → h2 1001 = h 1001 → Wp true i_L_law 2076 [vr 1000, vr 0, vr 103, vi x3] [] h2 Q) : Wp true i_L_law 794 [vr 1000, vr 0, vr 103, vi x3] [] h Q := by
  have b1 := E.2.2.1
  have b2 := E.2.2.2.1
  obtain ⟨v, Mid, m1, m2, m3⟩ := A_land (h := h) (x1 := (h 1000 (x3 + 1).toNat)) (x2 := (h 1000 (x3 + 2).toNat)) E.1 
  obtain ⟨z, rfl⟩ := (ag_kind (mi := i_C_land) (by decide) m2).2 (by decide)
  refine g_L_law_794 (by omega) (by omega) (by omega) (by omega) (m2 _ (fun h1 mid => ?_))
  have e0 := (m1 h1 mid).1
  have e1 : h1 1001 0 = h 1001 0 := by rw [(m1 h1 mid).2]
  refine g_L_law_808 (by omega) (by omega) (by omega) (by omega) ?_
  rw [e0]
  exact m3 h1 _ mid (fun h2 r2 f0 f1 => g_L_law_822 (fun _ => K h2 r2 f0 f1) (fun q => absurd rfl q))

theorem lw_boards {Q : PQ} {h : HP} {n : Nat} {x3 : Int} (E : LC n h x3) (K : ∀ h2, Rel (n + 1) h2 → h2 1000 = h 1000 → h2 1001 = h 1001 → Wp true i_L_law 2076 [vr 1000, vr 0, vr 103, vi x3] [] h2 Q) : Wp true i_L_law 827 [vr 1000, vr 0, vr 103, vi x3] [] h Q := by
  have b1 := E.2.2.1
  have b2 := E.2.2.2.1
  obtain ⟨v, Mid, m1, m2, m3⟩ := A_boards (h := h) (x1 := (h 1000 (x3 + 1).toNat)) E.1 
  obtain ⟨z, rfl⟩ := (ag_kind (mi := i_C_boards) (by decide) m2).2 (by decide)
  refine g_L_law_827 (by omega) (by omega) (m2 _ (fun h1 mid => ?_))
  have e0 := (m1 h1 mid).1
  have e1 : h1 1001 0 = h 1001 0 := by rw [(m1 h1 mid).2]
  refine g_L_law_836 (by omega) (by omega) ?_
  rw [e0]
  exact m3 h1 _ mid (fun h2 r2 f0 f1 => g_L_law_845 (fun _ => K h2 r2 f0 f1) (fun q => absurd rfl q))

theorem lw_value {Q : PQ} {h : HP} {n : Nat} {x3 : Int} (E : LC n h x3) (K : ∀ h2, Rel (n + 1) h2 → h2 1000 = h 1000 → h2 1001 = h 1001 → Wp true i_L_law 2076 [vr 1000, vr 0, vr 103, vi x3] [] h2 Q) : Wp true i_L_law 850 [vr 1000, vr 0, vr 103, vi x3] [] h Q := by
  have b1 := E.2.2.1
  have b2 := E.2.2.2.1
  obtain ⟨v, Mid, m1, m2, m3⟩ := A_value (h := h) (x1 := (h 1000 (x3 + 1).toNat)) E.1 
  obtain ⟨z, rfl⟩ := (ag_kind (mi := i_C_value) (by decide) m2).2 (by decide)
  refine g_L_law_850 (by omega) (by omega) (m2 _ (fun h1 mid => ?_))
  have e0 := (m1 h1 mid).1
  have e1 : h1 1001 0 = h 1001 0 := by rw [(m1 h1 mid).2]
  refine g_L_law_859 (by omega) (by omega) ?_
  rw [e0]
  exact m3 h1 _ mid (fun h2 r2 f0 f1 => g_L_law_868 (fun _ => K h2 r2 f0 f1) (fun q => absurd rfl q))

theorem lw_things {Q : PQ} {h : HP} {n : Nat} {x3 : Int} (E : LC n h x3) (K : ∀ h2, Rel (n + 1) h2 → h2 1000 = h 1000 → h2 1001 = h 1001 → Wp true i_L_law 2076 [vr 1000, vr 0, vr 103, vi x3] [] h2 Q) : Wp true i_L_law 873 [vr 1000, vr 0, vr 103, vi x3] [] h Q := by
  have b1 := E.2.2.1
  have b2 := E.2.2.2.1
  obtain ⟨v, Mid, m1, m2, m3⟩ := A_things (h := h) (x1 := (h 1000 (x3 + 1).toNat)) E.1 
  obtain ⟨z, rfl⟩ := (ag_kind (mi := i_C_things) (by decide) m2).2 (by decide)
  refine g_L_law_873 (by omega) (by omega) (m2 _ (fun h1 mid => ?_))
  have e0 := (m1 h1 mid).1
  have e1 : h1 1001 0 = h 1001 0 := by rw [(m1 h1 mid).2]
  refine g_L_law_882 (by omega) (by omega) ?_
  rw [e0]
  exact m3 h1 _ mid (fun h2 r2 f0 f1 => g_L_law_891 (fun _ => K h2 r2 f0 f1) (fun q => absurd rfl q))

theorem lw_share {Q : PQ} {h : HP} {n : Nat} {x3 : Int} (E : LC n h x3) (K : ∀ h2, Rel (n + 1) h2 → h2 1000 = h 1000 → h2 1001 = h 1001 → Wp true i_L_law 2076 [vr 1000, vr 0, vr 103, vi x3] [] h2 Q) : Wp true i_L_law 896 [vr 1000, vr 0, vr 103, vi x3] [] h Q := by
  have b1 := E.2.2.1
  have b2 := E.2.2.2.1
  obtain ⟨v, Mid, m1, m2, m3⟩ := A_share (h := h) (x1 := (h 1000 (x3 + 1).toNat)) E.1 
  obtain ⟨z, rfl⟩ := (ag_kind (mi := i_C_share) (by decide) m2).2 (by decide)
  refine g_L_law_896 (by omega) (by omega) (m2 _ (fun h1 mid => ?_))
  have e0 := (m1 h1 mid).1
  have e1 : h1 1001 0 = h 1001 0 := by rw [(m1 h1 mid).2]
  refine g_L_law_905 (by omega) (by omega) ?_
  rw [e0]
  exact m3 h1 _ mid (fun h2 r2 f0 f1 => g_L_law_914 (fun _ => K h2 r2 f0 f1) (fun q => absurd rfl q))

theorem lw_envy {Q : PQ} {h : HP} {n : Nat} {x3 : Int} (E : LC n h x3) (K : ∀ h2, Rel (n + 1) h2 → h2 1000 = h 1000 → h2 1001 = h 1001 → Wp true i_L_law 2076 [vr 1000, vr 0, vr 103, vi x3] [] h2 Q) : Wp true i_L_law 919 [vr 1000, vr 0, vr 103, vi x3] [] h Q := by
  have b1 := E.2.2.1
  have b2 := E.2.2.2.1
  obtain ⟨v, Mid, m1, m2, m3⟩ := A_envy (h := h) (x1 := (h 1000 (x3 + 1).toNat)) E.1 
  obtain ⟨z, rfl⟩ := (ag_kind (mi := i_C_envy) (by decide) m2).2 (by decide)
  refine g_L_law_919 (by omega) (by omega) (m2 _ (fun h1 mid => ?_))
  have e0 := (m1 h1 mid).1
  have e1 : h1 1001 0 = h 1001 0 := by rw [(m1 h1 mid).2]
  refine g_L_law_928 (by omega) (by omega) ?_
  rw [e0]
  exact m3 h1 _ mid (fun h2 r2 f0 f1 => g_L_law_937 (fun _ => K h2 r2 f0 f1) (fun q => absurd rfl q))

theorem lw_fair {Q : PQ} {h : HP} {n : Nat} {x3 : Int} (E : LC n h x3) (K : ∀ h2, Rel (n + 1) h2 → h2 1000 = h 1000 → h2 1001 = h 1001 → Wp true i_L_law 2076 [vr 1000, vr 0, vr 103, vi x3] [] h2 Q) : Wp true i_L_law 942 [vr 1000, vr 0, vr 103, vi x3] [] h Q := by
  have b1 := E.2.2.1
  have b2 := E.2.2.2.1
  obtain ⟨v, Mid, m1, m2, m3⟩ := A_fair (h := h)  E.1 
  obtain ⟨z, rfl⟩ := (ag_kind (mi := i_C_fair) (by decide) m2).2 (by decide)
  refine g_L_law_942 (m2 _ (fun h1 mid => ?_))
  have e0 := (m1 h1 mid).1
  have e1 : h1 1001 0 = h 1001 0 := by rw [(m1 h1 mid).2]
  refine g_L_law_946 ?_
  exact m3 h1 _ mid (fun h2 r2 f0 f1 => g_L_law_950 (fun _ => K h2 r2 f0 f1) (fun q => absurd rfl q))

theorem lw_chalk {Q : PQ} {h : HP} {n : Nat} {x3 : Int} (E : LC n h x3) (K : ∀ h2, Rel (n + 1) h2 → h2 1000 = h 1000 → h2 1001 = h 1001 → Wp true i_L_law 2076 [vr 1000, vr 0, vr 103, vi x3] [] h2 Q) : Wp true i_L_law 955 [vr 1000, vr 0, vr 103, vi x3] [] h Q := by
  have b1 := E.2.2.1
  have b2 := E.2.2.2.1
  obtain ⟨v, Mid, m1, m2, m3⟩ := A_chalk (h := h)  E.1 
  obtain ⟨z, rfl⟩ := (ag_kind (mi := i_C_chalk) (by decide) m2).2 (by decide)
  refine g_L_law_955 (m2 _ (fun h1 mid => ?_))
  have e0 := (m1 h1 mid).1
  have e1 : h1 1001 0 = h 1001 0 := by rw [(m1 h1 mid).2]
  refine g_L_law_959 ?_
  exact m3 h1 _ mid (fun h2 r2 f0 f1 => g_L_law_963 (fun _ => K h2 r2 f0 f1) (fun q => absurd rfl q))

theorem lw_bulges {Q : PQ} {h : HP} {n : Nat} {x3 : Int} (E : LC n h x3) (K : ∀ h2, Rel (n + 1) h2 → h2 1000 = h 1000 → h2 1001 = h 1001 → Wp true i_L_law 2076 [vr 1000, vr 0, vr 103, vi x3] [] h2 Q) : Wp true i_L_law 968 [vr 1000, vr 0, vr 103, vi x3] [] h Q := by
  have b1 := E.2.2.1
  have b2 := E.2.2.2.1
  obtain ⟨v, Mid, m1, m2, m3⟩ := A_bulges (h := h)  E.1 
  obtain ⟨z, rfl⟩ := (ag_kind (mi := i_C_bulges) (by decide) m2).2 (by decide)
  refine g_L_law_968 (m2 _ (fun h1 mid => ?_))
  have e0 := (m1 h1 mid).1
  have e1 : h1 1001 0 = h 1001 0 := by rw [(m1 h1 mid).2]
  refine g_L_law_972 ?_
  exact m3 h1 _ mid (fun h2 r2 f0 f1 => g_L_law_976 (fun _ => K h2 r2 f0 f1) (fun q => absurd rfl q))

theorem lw_border {Q : PQ} {h : HP} {n : Nat} {x3 : Int} (E : LC n h x3) (K : ∀ h2, Rel (n + 1) h2 → h2 1000 = h 1000 → h2 1001 = h 1001 → Wp true i_L_law 2076 [vr 1000, vr 0, vr 103, vi x3] [] h2 Q) : Wp true i_L_law 981 [vr 1000, vr 0, vr 103, vi x3] [] h Q := by
  have b1 := E.2.2.1
  have b2 := E.2.2.2.1
  obtain ⟨v, Mid, m1, m2, m3⟩ := A_border (h := h) (x1 := (h 1000 (x3 + 1).toNat)) E.1 
  obtain ⟨z, rfl⟩ := (ag_kind (mi := i_C_border) (by decide) m2).2 (by decide)
  refine g_L_law_981 (by omega) (by omega) (m2 _ (fun h1 mid => ?_))
  have e0 := (m1 h1 mid).1
  have e1 : h1 1001 0 = h 1001 0 := by rw [(m1 h1 mid).2]
  refine g_L_law_990 (by omega) (by omega) ?_
  rw [e0]
  exact m3 h1 _ mid (fun h2 r2 f0 f1 => g_L_law_999 (fun _ => K h2 r2 f0 f1) (fun q => absurd rfl q))

theorem lw_strongest {Q : PQ} {h : HP} {n : Nat} {x3 : Int} (E : LC n h x3) (K : ∀ h2, Rel (n + 1) h2 → h2 1000 = h 1000 → h2 1001 = h 1001 → Wp true i_L_law 2076 [vr 1000, vr 0, vr 103, vi x3] [] h2 Q) : Wp true i_L_law 1004 [vr 1000, vr 0, vr 103, vi x3] [] h Q := by
  have b1 := E.2.2.1
  have b2 := E.2.2.2.1
  obtain ⟨v, Mid, m1, m2, m3⟩ := A_strongest (h := h) (x1 := (h 1000 (x3 + 1).toNat)) E.1 
  obtain ⟨z, rfl⟩ := (ag_kind (mi := i_C_strongest) (by decide) m2).2 (by decide)
  refine g_L_law_1004 (by omega) (by omega) (m2 _ (fun h1 mid => ?_))
  have e0 := (m1 h1 mid).1
  have e1 : h1 1001 0 = h 1001 0 := by rw [(m1 h1 mid).2]
  refine g_L_law_1013 (by omega) (by omega) ?_
  rw [e0]
  exact m3 h1 _ mid (fun h2 r2 f0 f1 => g_L_law_1022 (fun _ => K h2 r2 f0 f1) (fun q => absurd rfl q))

theorem lw_least {Q : PQ} {h : HP} {n : Nat} {x3 : Int} (E : LC n h x3) (K : ∀ h2, Rel (n + 1) h2 → h2 1000 = h 1000 → h2 1001 = h 1001 → Wp true i_L_law 2076 [vr 1000, vr 0, vr 103, vi x3] [] h2 Q) : Wp true i_L_law 1027 [vr 1000, vr 0, vr 103, vi x3] [] h Q := by
  have b1 := E.2.2.1
  have b2 := E.2.2.2.1
  obtain ⟨v, Mid, m1, m2, m3⟩ := A_least (h := h) (x1 := (h 1000 (x3 + 1).toNat)) E.1 
  obtain ⟨z, rfl⟩ := (ag_kind (mi := i_C_least) (by decide) m2).2 (by decide)
  refine g_L_law_1027 (by omega) (by omega) (m2 _ (fun h1 mid => ?_))
  have e0 := (m1 h1 mid).1
  have e1 : h1 1001 0 = h 1001 0 := by rw [(m1 h1 mid).2]
  refine g_L_law_1036 (by omega) (by omega) ?_
  rw [e0]
  exact m3 h1 _ mid (fun h2 r2 f0 f1 => g_L_law_1045 (fun _ => K h2 r2 f0 f1) (fun q => absurd rfl q))

theorem lw_wanted {Q : PQ} {h : HP} {n : Nat} {x3 : Int} (E : LC n h x3) (K : ∀ h2, Rel (n + 1) h2 → h2 1000 = h 1000 → h2 1001 = h 1001 → Wp true i_L_law 2076 [vr 1000, vr 0, vr 103, vi x3] [] h2 Q) : Wp true i_L_law 1050 [vr 1000, vr 0, vr 103, vi x3] [] h Q := by
  have b1 := E.2.2.1
  have b2 := E.2.2.2.1
  obtain ⟨v, Mid, m1, m2, m3⟩ := A_wanted (h := h) (x1 := (h 1000 (x3 + 1).toNat)) E.1 
  obtain ⟨z, rfl⟩ := (ag_kind (mi := i_C_wanted) (by decide) m2).2 (by decide)
  refine g_L_law_1050 (by omega) (by omega) (m2 _ (fun h1 mid => ?_))
  have e0 := (m1 h1 mid).1
  have e1 : h1 1001 0 = h 1001 0 := by rw [(m1 h1 mid).2]
  refine g_L_law_1059 (by omega) (by omega) ?_
  rw [e0]
  exact m3 h1 _ mid (fun h2 r2 f0 f1 => g_L_law_1068 (fun _ => K h2 r2 f0 f1) (fun q => absurd rfl q))

theorem lw_cede {Q : PQ} {h : HP} {n : Nat} {x3 : Int} (E : LC n h x3) (K : ∀ h2, Rel (n + 1) h2 → h2 1000 = h 1000 → h2 1001 = h 1001 → Wp true i_L_law 2076 [vr 1000, vr 0, vr 103, vi x3] [] h2 Q) : Wp true i_L_law 1073 [vr 1000, vr 0, vr 103, vi x3] [] h Q := by
  have b1 := E.2.2.1
  have b2 := E.2.2.2.1
  obtain ⟨v, Mid, m1, m2, m3⟩ := A_cede (h := h) (x1 := (h 1000 (x3 + 1).toNat)) (x2 := (h 1000 (x3 + 2).toNat)) (x3 := (h 1000 (x3 + 3).toNat)) E.1 E.2.1
  obtain ⟨z, rfl⟩ := (ag_kind (mi := i_C_cede) (by decide) m2).2 (by decide)
  refine g_L_law_1073 (by omega) (by omega) (by omega) (by omega) (by omega) (by omega) (m2 _ (fun h1 mid => ?_))
  have e0 := (m1 h1 mid).1
  have e1 : h1 1001 0 = h 1001 0 := by rw [(m1 h1 mid).2]
  refine g_L_law_1092 (by omega) (by omega) (by omega) (by omega) (by omega) (by omega) ?_
  rw [e0]
  exact m3 h1 _ mid (fun h2 r2 f0 f1 => g_L_law_1111 (fun _ => K h2 r2 f0 f1) (fun q => absurd rfl q))

theorem lw_night {Q : PQ} {h : HP} {n : Nat} {x3 : Int} (E : LC n h x3) (K : ∀ h2, Rel (n + 1) h2 → h2 1000 = h 1000 → h2 1001 = h 1001 → Wp true i_L_law 2076 [vr 1000, vr 0, vr 103, vi x3] [] h2 Q) : Wp true i_L_law 1116 [vr 1000, vr 0, vr 103, vi x3] [] h Q := by
  have b1 := E.2.2.1
  have b2 := E.2.2.2.1
  obtain ⟨v, Mid, m1, m2, m3⟩ := A_night (h := h)  E.1 E.2.1
  obtain ⟨z, rfl⟩ := (ag_kind (mi := i_C_night) (by decide) m2).2 (by decide)
  refine g_L_law_1116 (m2 _ (fun h1 mid => ?_))
  have e0 := (m1 h1 mid).1
  have e1 : h1 1001 0 = h 1001 0 := by rw [(m1 h1 mid).2]
  refine g_L_law_1120 ?_
  exact m3 h1 _ mid (fun h2 r2 f0 f1 => g_L_law_1124 (fun _ => K h2 r2 f0 f1) (fun q => absurd rfl q))

theorem lw_sweep {Q : PQ} {h : HP} {n : Nat} {x3 : Int} (E : LC n h x3) (K : ∀ h2, Rel (n + 1) h2 → h2 1000 = h 1000 → h2 1001 = h 1001 → Wp true i_L_law 2076 [vr 1000, vr 0, vr 103, vi x3] [] h2 Q) : Wp true i_L_law 1129 [vr 1000, vr 0, vr 103, vi x3] [] h Q := by
  have b1 := E.2.2.1
  have b2 := E.2.2.2.1
  obtain ⟨v, Mid, m1, m2, m3⟩ := A_sweep (h := h) (x1 := (h 1000 (x3 + 1).toNat)) E.1 
  obtain ⟨z, rfl⟩ := (ag_kind (mi := i_C_sweep) (by decide) m2).2 (by decide)
  refine g_L_law_1129 (by omega) (by omega) (m2 _ (fun h1 mid => ?_))
  have e0 := (m1 h1 mid).1
  have e1 : h1 1001 0 = h 1001 0 := by rw [(m1 h1 mid).2]
  refine g_L_law_1138 (by omega) (by omega) ?_
  rw [e0]
  exact m3 h1 _ mid (fun h2 r2 f0 f1 => g_L_law_1147 (fun _ => K h2 r2 f0 f1) (fun q => absurd rfl q))

theorem lw_move {Q : PQ} {h : HP} {n : Nat} {x3 : Int} (E : LC n h x3) (K : ∀ h2, Rel (n + 1) h2 → h2 1000 = h 1000 → h2 1001 = h 1001 → Wp true i_L_law 2076 [vr 1000, vr 0, vr 103, vi x3] [] h2 Q) : Wp true i_L_law 1152 [vr 1000, vr 0, vr 103, vi x3] [] h Q := by
  have b1 := E.2.2.1
  have b2 := E.2.2.2.1
  obtain ⟨v, Mid, m1, m2, m3⟩ := A_move (h := h) (x1 := (h 1000 (x3 + 1).toNat)) (x2 := (h 1000 (x3 + 2).toNat)) (x3 := (h 1000 (x3 + 3).toNat)) E.1 
  obtain ⟨z, rfl⟩ := (ag_kind (mi := i_C_move) (by decide) m2).2 (by decide)
  refine g_L_law_1152 (by omega) (by omega) (by omega) (by omega) (by omega) (by omega) (m2 _ (fun h1 mid => ?_))
  have e0 := (m1 h1 mid).1
  have e1 : h1 1001 0 = h 1001 0 := by rw [(m1 h1 mid).2]
  refine g_L_law_1171 (by omega) (by omega) (by omega) (by omega) (by omega) (by omega) ?_
  rw [e0]
  exact m3 h1 _ mid (fun h2 r2 f0 f1 => g_L_law_1190 (fun _ => K h2 r2 f0 f1) (fun q => absurd rfl q))

theorem lw_leg {Q : PQ} {h : HP} {n : Nat} {x3 : Int} (E : LC n h x3) (K : ∀ h2, Rel (n + 1) h2 → h2 1000 = h 1000 → h2 1001 = h 1001 → Wp true i_L_law 2076 [vr 1000, vr 0, vr 103, vi x3] [] h2 Q) : Wp true i_L_law 1195 [vr 1000, vr 0, vr 103, vi x3] [] h Q := by
  have b1 := E.2.2.1
  have b2 := E.2.2.2.1
  obtain ⟨v, Mid, m1, m2, m3⟩ := A_leg (h := h) (x1 := (h 1000 (x3 + 1).toNat)) (x2 := (h 1000 (x3 + 2).toNat)) E.1 
  obtain ⟨z, rfl⟩ := (ag_kind (mi := i_C_leg) (by decide) m2).2 (by decide)
  refine g_L_law_1195 (by omega) (by omega) (by omega) (by omega) (m2 _ (fun h1 mid => ?_))
  have e0 := (m1 h1 mid).1
  have e1 : h1 1001 0 = h 1001 0 := by rw [(m1 h1 mid).2]
  refine g_L_law_1209 (by omega) (by omega) (by omega) (by omega) ?_
  rw [e0]
  exact m3 h1 _ mid (fun h2 r2 f0 f1 => g_L_law_1223 (fun _ => K h2 r2 f0 f1) (fun q => absurd rfl q))

theorem lw_bends {Q : PQ} {h : HP} {n : Nat} {x3 : Int} (E : LC n h x3) (K : ∀ h2, Rel (n + 1) h2 → h2 1000 = h 1000 → h2 1001 = h 1001 → Wp true i_L_law 2076 [vr 1000, vr 0, vr 103, vi x3] [] h2 Q) : Wp true i_L_law 1228 [vr 1000, vr 0, vr 103, vi x3] [] h Q := by
  have b1 := E.2.2.1
  have b2 := E.2.2.2.1
  obtain ⟨v, Mid, m1, m2, m3⟩ := A_bends (h := h) (x1 := (h 1000 (x3 + 1).toNat)) E.1 
  obtain ⟨z, rfl⟩ := (ag_kind (mi := i_C_bends) (by decide) m2).2 (by decide)
  refine g_L_law_1228 (by omega) (by omega) (m2 _ (fun h1 mid => ?_))
  have e0 := (m1 h1 mid).1
  have e1 : h1 1001 0 = h 1001 0 := by rw [(m1 h1 mid).2]
  refine g_L_law_1237 (by omega) (by omega) ?_
  rw [e0]
  exact m3 h1 _ mid (fun h2 r2 f0 f1 => g_L_law_1246 (fun _ => K h2 r2 f0 f1) (fun q => absurd rfl q))

theorem lw_draw {Q : PQ} {h : HP} {n : Nat} {x3 : Int} (E : LC n h x3) (K : ∀ h2, Rel (n + 1) h2 → h2 1000 = h 1000 → h2 1001 = h 1001 → Wp true i_L_law 2076 [vr 1000, vr 0, vr 103, vi x3] [] h2 Q) : Wp true i_L_law 1251 [vr 1000, vr 0, vr 103, vi x3] [] h Q := by
  have b1 := E.2.2.1
  have b2 := E.2.2.2.1
  obtain ⟨v, Mid, m1, m2, m3⟩ := A_draw (h := h) (x1 := (h 1000 (x3 + 1).toNat)) E.1 
  obtain ⟨z, rfl⟩ := (ag_kind (mi := i_C_draw) (by decide) m2).2 (by decide)
  refine g_L_law_1251 (by omega) (by omega) (m2 _ (fun h1 mid => ?_))
  have e0 := (m1 h1 mid).1
  have e1 : h1 1001 0 = h 1001 0 := by rw [(m1 h1 mid).2]
  refine g_L_law_1260 (by omega) (by omega) ?_
  rw [e0]
  exact m3 h1 _ mid (fun h2 r2 f0 f1 => g_L_law_1269 (fun _ => K h2 r2 f0 f1) (fun q => absurd rfl q))

theorem lw_copy {Q : PQ} {h : HP} {n : Nat} {x3 : Int} (E : LC n h x3) (K : ∀ h2, Rel (n + 1) h2 → h2 1000 = h 1000 → h2 1001 = h 1001 → Wp true i_L_law 2076 [vr 1000, vr 0, vr 103, vi x3] [] h2 Q) : Wp true i_L_law 1274 [vr 1000, vr 0, vr 103, vi x3] [] h Q := by
  have b1 := E.2.2.1
  have b2 := E.2.2.2.1
  obtain ⟨v, Mid, m1, m2, m3⟩ := A_copy (h := h) (x1 := (h 1000 (x3 + 1).toNat)) E.1 
  obtain ⟨z, rfl⟩ := (ag_kind (mi := i_C_copy) (by decide) m2).2 (by decide)
  refine g_L_law_1274 (by omega) (by omega) (m2 _ (fun h1 mid => ?_))
  have e0 := (m1 h1 mid).1
  have e1 : h1 1001 0 = h 1001 0 := by rw [(m1 h1 mid).2]
  refine g_L_law_1283 (by omega) (by omega) ?_
  rw [e0]
  exact m3 h1 _ mid (fun h2 r2 f0 f1 => g_L_law_1292 (fun _ => K h2 r2 f0 f1) (fun q => absurd rfl q))

theorem lw_islands {Q : PQ} {h : HP} {n : Nat} {x3 : Int} (E : LC n h x3) (K : ∀ h2, Rel (n + 1) h2 → h2 1000 = h 1000 → h2 1001 = h 1001 → Wp true i_L_law 2076 [vr 1000, vr 0, vr 103, vi x3] [] h2 Q) : Wp true i_L_law 1297 [vr 1000, vr 0, vr 103, vi x3] [] h Q := by
  have b1 := E.2.2.1
  have b2 := E.2.2.2.1
  obtain ⟨v, Mid, m1, m2, m3⟩ := A_islands (h := h) (x1 := (h 1000 (x3 + 1).toNat)) E.1 
  obtain ⟨z, rfl⟩ := (ag_kind (mi := i_C_islands) (by decide) m2).2 (by decide)
  refine g_L_law_1297 (by omega) (by omega) (m2 _ (fun h1 mid => ?_))
  have e0 := (m1 h1 mid).1
  have e1 : h1 1001 0 = h 1001 0 := by rw [(m1 h1 mid).2]
  refine g_L_law_1306 (by omega) (by omega) ?_
  rw [e0]
  exact m3 h1 _ mid (fun h2 r2 f0 f1 => g_L_law_1315 (fun _ => K h2 r2 f0 f1) (fun q => absurd rfl q))

theorem lw_island {Q : PQ} {h : HP} {n : Nat} {x3 : Int} (E : LC n h x3) (K : ∀ h2, Rel (n + 1) h2 → h2 1000 = h 1000 → h2 1001 = h 1001 → Wp true i_L_law 2076 [vr 1000, vr 0, vr 103, vi x3] [] h2 Q) : Wp true i_L_law 1320 [vr 1000, vr 0, vr 103, vi x3] [] h Q := by
  have b1 := E.2.2.1
  have b2 := E.2.2.2.1
  obtain ⟨v, Mid, m1, m2, m3⟩ := A_island (h := h) (x1 := (h 1000 (x3 + 1).toNat)) (x2 := (h 1000 (x3 + 2).toNat)) E.1 
  obtain ⟨z, rfl⟩ := (ag_kind (mi := i_C_island) (by decide) m2).2 (by decide)
  refine g_L_law_1320 (by omega) (by omega) (by omega) (by omega) (m2 _ (fun h1 mid => ?_))
  have e0 := (m1 h1 mid).1
  have e1 : h1 1001 0 = h 1001 0 := by rw [(m1 h1 mid).2]
  refine g_L_law_1334 (by omega) (by omega) (by omega) (by omega) ?_
  rw [e0]
  exact m3 h1 _ mid (fun h2 r2 f0 f1 => g_L_law_1348 (fun _ => K h2 r2 f0 f1) (fun q => absurd rfl q))

theorem lw_mainland {Q : PQ} {h : HP} {n : Nat} {x3 : Int} (E : LC n h x3) (K : ∀ h2, Rel (n + 1) h2 → h2 1000 = h 1000 → h2 1001 = h 1001 → Wp true i_L_law 2076 [vr 1000, vr 0, vr 103, vi x3] [] h2 Q) : Wp true i_L_law 1353 [vr 1000, vr 0, vr 103, vi x3] [] h Q := by
  have b1 := E.2.2.1
  have b2 := E.2.2.2.1
  obtain ⟨v, Mid, m1, m2, m3⟩ := A_mainland (h := h) (x1 := (h 1000 (x3 + 1).toNat)) E.1 
  obtain ⟨z, rfl⟩ := (ag_kind (mi := i_C_mainland) (by decide) m2).2 (by decide)
  refine g_L_law_1353 (by omega) (by omega) (m2 _ (fun h1 mid => ?_))
  have e0 := (m1 h1 mid).1
  have e1 : h1 1001 0 = h 1001 0 := by rw [(m1 h1 mid).2]
  refine g_L_law_1362 (by omega) (by omega) ?_
  rw [e0]
  exact m3 h1 _ mid (fun h2 r2 f0 f1 => g_L_law_1371 (fun _ => K h2 r2 f0 f1) (fun q => absurd rfl q))

theorem lw_joined {Q : PQ} {h : HP} {n : Nat} {x3 : Int} (E : LC n h x3) (K : ∀ h2, Rel (n + 1) h2 → h2 1000 = h 1000 → h2 1001 = h 1001 → Wp true i_L_law 2076 [vr 1000, vr 0, vr 103, vi x3] [] h2 Q) : Wp true i_L_law 1376 [vr 1000, vr 0, vr 103, vi x3] [] h Q := by
  have b1 := E.2.2.1
  have b2 := E.2.2.2.1
  obtain ⟨v, Mid, m1, m2, m3⟩ := A_joined (h := h) (x1 := (h 1000 (x3 + 1).toNat)) (x2 := (h 1000 (x3 + 2).toNat)) (x3 := (h 1000 (x3 + 3).toNat)) (x4 := (h 1000 (x3 + 4).toNat)) E.1 
  obtain ⟨z, rfl⟩ := (ag_kind (mi := i_C_joined) (by decide) m2).2 (by decide)
  refine g_L_law_1376 (by omega) (by omega) (by omega) (by omega) (by omega) (by omega) (by omega) (by omega) (m2 _ (fun h1 mid => ?_))
  have e0 := (m1 h1 mid).1
  have e1 : h1 1001 0 = h 1001 0 := by rw [(m1 h1 mid).2]
  refine g_L_law_1400 (by omega) (by omega) (by omega) (by omega) (by omega) (by omega) (by omega) (by omega) ?_
  rw [e0]
  exact m3 h1 _ mid (fun h2 r2 f0 f1 => g_L_law_1424 (fun _ => K h2 r2 f0 f1) (fun q => absurd rfl q))

theorem lw_passes {Q : PQ} {h : HP} {n : Nat} {x3 : Int} (E : LC n h x3) (K : ∀ h2, Rel (n + 1) h2 → h2 1000 = h 1000 → h2 1001 = h 1001 → Wp true i_L_law 2076 [vr 1000, vr 0, vr 103, vi x3] [] h2 Q) : Wp true i_L_law 1429 [vr 1000, vr 0, vr 103, vi x3] [] h Q := by
  have b1 := E.2.2.1
  have b2 := E.2.2.2.1
  obtain ⟨v, Mid, m1, m2, m3⟩ := A_passes (h := h) (x1 := (h 1000 (x3 + 1).toNat)) (x2 := (h 1000 (x3 + 2).toNat)) (x3 := (h 1000 (x3 + 3).toNat)) E.1 
  obtain ⟨z, rfl⟩ := (ag_kind (mi := i_C_passes) (by decide) m2).2 (by decide)
  refine g_L_law_1429 (by omega) (by omega) (by omega) (by omega) (by omega) (by omega) (m2 _ (fun h1 mid => ?_))
  have e0 := (m1 h1 mid).1
  have e1 : h1 1001 0 = h 1001 0 := by rw [(m1 h1 mid).2]
  refine g_L_law_1448 (by omega) (by omega) (by omega) (by omega) (by omega) (by omega) ?_
  rw [e0]
  exact m3 h1 _ mid (fun h2 r2 f0 f1 => g_L_law_1467 (fun _ => K h2 r2 f0 f1) (fun q => absurd rfl q))

theorem lw_steps {Q : PQ} {h : HP} {n : Nat} {x3 : Int} (E : LC n h x3) (K : ∀ h2, Rel (n + 1) h2 → h2 1000 = h 1000 → h2 1001 = h 1001 → Wp true i_L_law 2076 [vr 1000, vr 0, vr 103, vi x3] [] h2 Q) : Wp true i_L_law 1472 [vr 1000, vr 0, vr 103, vi x3] [] h Q := by
  have b1 := E.2.2.1
  have b2 := E.2.2.2.1
  obtain ⟨v, Mid, m1, m2, m3⟩ := A_steps (h := h) (x1 := (h 1000 (x3 + 1).toNat)) (x2 := (h 1000 (x3 + 2).toNat)) (x3 := (h 1000 (x3 + 3).toNat)) E.1 
  obtain ⟨z, rfl⟩ := (ag_kind (mi := i_C_steps) (by decide) m2).2 (by decide)
  refine g_L_law_1472 (by omega) (by omega) (by omega) (by omega) (by omega) (by omega) (m2 _ (fun h1 mid => ?_))
  have e0 := (m1 h1 mid).1
  have e1 : h1 1001 0 = h 1001 0 := by rw [(m1 h1 mid).2]
  refine g_L_law_1491 (by omega) (by omega) (by omega) (by omega) (by omega) (by omega) ?_
  rw [e0]
  exact m3 h1 _ mid (fun h2 r2 f0 f1 => g_L_law_1510 (fun _ => K h2 r2 f0 f1) (fun q => absurd rfl q))

theorem lw_reach {Q : PQ} {h : HP} {n : Nat} {x3 : Int} (E : LC n h x3) (K : ∀ h2, Rel (n + 1) h2 → h2 1000 = h 1000 → h2 1001 = h 1001 → Wp true i_L_law 2076 [vr 1000, vr 0, vr 103, vi x3] [] h2 Q) : Wp true i_L_law 1515 [vr 1000, vr 0, vr 103, vi x3] [] h Q := by
  have b1 := E.2.2.1
  have b2 := E.2.2.2.1
  obtain ⟨v, Mid, m1, m2, m3⟩ := A_reach (h := h) (x1 := (h 1000 (x3 + 1).toNat)) E.1 
  obtain ⟨z, rfl⟩ := (ag_kind (mi := i_C_reach) (by decide) m2).2 (by decide)
  refine g_L_law_1515 (by omega) (by omega) (m2 _ (fun h1 mid => ?_))
  have e0 := (m1 h1 mid).1
  have e1 : h1 1001 0 = h 1001 0 := by rw [(m1 h1 mid).2]
  refine g_L_law_1524 (by omega) (by omega) ?_
  rw [e0]
  exact m3 h1 _ mid (fun h2 r2 f0 f1 => g_L_law_1533 (fun _ => K h2 r2 f0 f1) (fun q => absurd rfl q))

theorem lw_strait {Q : PQ} {h : HP} {n : Nat} {x3 : Int} (E : LC n h x3) (K : ∀ h2, Rel (n + 1) h2 → h2 1000 = h 1000 → h2 1001 = h 1001 → Wp true i_L_law 2076 [vr 1000, vr 0, vr 103, vi x3] [] h2 Q) : Wp true i_L_law 1538 [vr 1000, vr 0, vr 103, vi x3] [] h Q := by
  have b1 := E.2.2.1
  have b2 := E.2.2.2.1
  obtain ⟨v, Mid, m1, m2, m3⟩ := A_strait (h := h) (x1 := (h 1000 (x3 + 1).toNat)) E.1 
  obtain ⟨z, rfl⟩ := (ag_kind (mi := i_C_strait) (by decide) m2).2 (by decide)
  refine g_L_law_1538 (by omega) (by omega) (m2 _ (fun h1 mid => ?_))
  have e0 := (m1 h1 mid).1
  have e1 : h1 1001 0 = h 1001 0 := by rw [(m1 h1 mid).2]
  refine g_L_law_1547 (by omega) (by omega) ?_
  rw [e0]
  exact m3 h1 _ mid (fun h2 r2 f0 f1 => g_L_law_1556 (fun _ => K h2 r2 f0 f1) (fun q => absurd rfl q))

theorem lw_bridge {Q : PQ} {h : HP} {n : Nat} {x3 : Int} (E : LC n h x3) (K : ∀ h2, Rel (n + 1) h2 → h2 1000 = h 1000 → h2 1001 = h 1001 → Wp true i_L_law 2076 [vr 1000, vr 0, vr 103, vi x3] [] h2 Q) : Wp true i_L_law 1561 [vr 1000, vr 0, vr 103, vi x3] [] h Q := by
  have b1 := E.2.2.1
  have b2 := E.2.2.2.1
  obtain ⟨v, Mid, m1, m2, m3⟩ := A_bridge (h := h) (x1 := (h 1000 (x3 + 1).toNat)) E.1 
  obtain ⟨z, rfl⟩ := (ag_kind (mi := i_C_bridge) (by decide) m2).2 (by decide)
  refine g_L_law_1561 (by omega) (by omega) (m2 _ (fun h1 mid => ?_))
  have e0 := (m1 h1 mid).1
  have e1 : h1 1001 0 = h 1001 0 := by rw [(m1 h1 mid).2]
  refine g_L_law_1570 (by omega) (by omega) ?_
  rw [e0]
  exact m3 h1 _ mid (fun h2 r2 f0 f1 => g_L_law_1579 (fun _ => K h2 r2 f0 f1) (fun q => absurd rfl q))

theorem lw_bridged {Q : PQ} {h : HP} {n : Nat} {x3 : Int} (E : LC n h x3) (K : ∀ h2, Rel (n + 1) h2 → h2 1000 = h 1000 → h2 1001 = h 1001 → Wp true i_L_law 2076 [vr 1000, vr 0, vr 103, vi x3] [] h2 Q) : Wp true i_L_law 1584 [vr 1000, vr 0, vr 103, vi x3] [] h Q := by
  have b1 := E.2.2.1
  have b2 := E.2.2.2.1
  obtain ⟨v, Mid, m1, m2, m3⟩ := A_bridged (h := h) (x1 := (h 1000 (x3 + 1).toNat)) E.1 
  obtain ⟨z, rfl⟩ := (ag_kind (mi := i_C_bridged) (by decide) m2).2 (by decide)
  refine g_L_law_1584 (by omega) (by omega) (m2 _ (fun h1 mid => ?_))
  have e0 := (m1 h1 mid).1
  have e1 : h1 1001 0 = h 1001 0 := by rw [(m1 h1 mid).2]
  refine g_L_law_1593 (by omega) (by omega) ?_
  rw [e0]
  exact m3 h1 _ mid (fun h2 r2 f0 f1 => g_L_law_1602 (fun _ => K h2 r2 f0 f1) (fun q => absurd rfl q))

theorem lw_give {Q : PQ} {h : HP} {n : Nat} {x3 : Int} (E : LC n h x3) (K : ∀ h2, Rel (n + 1) h2 → h2 1000 = h 1000 → h2 1001 = h 1001 → Wp true i_L_law 2076 [vr 1000, vr 0, vr 103, vi x3] [] h2 Q) : Wp true i_L_law 1607 [vr 1000, vr 0, vr 103, vi x3] [] h Q := by
  have b1 := E.2.2.1
  have b2 := E.2.2.2.1
  obtain ⟨v, Mid, m1, m2, m3⟩ := A_give (h := h) (x1 := (h 1000 (x3 + 1).toNat)) (x2 := (h 1000 (x3 + 2).toNat)) E.1 
  obtain ⟨z, rfl⟩ := (ag_kind (mi := i_C_give) (by decide) m2).2 (by decide)
  refine g_L_law_1607 (by omega) (by omega) (by omega) (by omega) (m2 _ (fun h1 mid => ?_))
  have e0 := (m1 h1 mid).1
  have e1 : h1 1001 0 = h 1001 0 := by rw [(m1 h1 mid).2]
  refine g_L_law_1621 (by omega) (by omega) (by omega) (by omega) ?_
  rw [e0]
  exact m3 h1 _ mid (fun h2 r2 f0 f1 => g_L_law_1635 (fun _ => K h2 r2 f0 f1) (fun q => absurd rfl q))

theorem lw_giveIn {Q : PQ} {h : HP} {n : Nat} {x3 : Int} (E : LC n h x3) (K : ∀ h2, Rel (n + 1) h2 → h2 1000 = h 1000 → h2 1001 = h 1001 → Wp true i_L_law 2076 [vr 1000, vr 0, vr 103, vi x3] [] h2 Q) : Wp true i_L_law 1640 [vr 1000, vr 0, vr 103, vi x3] [] h Q := by
  have b1 := E.2.2.1
  have b2 := E.2.2.2.1
  obtain ⟨v, Mid, m1, m2, m3⟩ := A_giveIn (h := h) (x1 := (h 1000 (x3 + 1).toNat)) (x2 := (h 1000 (x3 + 2).toNat)) (x3 := (h 1000 (x3 + 3).toNat)) E.1 
  obtain ⟨z, rfl⟩ := (ag_kind (mi := i_C_giveIn) (by decide) m2).2 (by decide)
  refine g_L_law_1640 (by omega) (by omega) (by omega) (by omega) (by omega) (by omega) (m2 _ (fun h1 mid => ?_))
  have e0 := (m1 h1 mid).1
  have e1 : h1 1001 0 = h 1001 0 := by rw [(m1 h1 mid).2]
  refine g_L_law_1659 (by omega) (by omega) (by omega) (by omega) (by omega) (by omega) ?_
  rw [e0]
  exact m3 h1 _ mid (fun h2 r2 f0 f1 => g_L_law_1678 (fun _ => K h2 r2 f0 f1) (fun q => absurd rfl q))

theorem lw_ask {Q : PQ} {h : HP} {n : Nat} {x3 : Int} (E : LC n h x3) (K : ∀ h2, Rel (n + 1) h2 → h2 1000 = h 1000 → h2 1001 = h 1001 → Wp true i_L_law 2076 [vr 1000, vr 0, vr 103, vi x3] [] h2 Q) : Wp true i_L_law 1683 [vr 1000, vr 0, vr 103, vi x3] [] h Q := by
  have b1 := E.2.2.1
  have b2 := E.2.2.2.1
  obtain ⟨v, Mid, m1, m2, m3⟩ := A_ask (h := h) (x1 := (h 1000 (x3 + 1).toNat)) (x2 := (h 1000 (x3 + 2).toNat)) E.1 
  obtain ⟨z, rfl⟩ := (ag_kind (mi := i_C_ask) (by decide) m2).2 (by decide)
  refine g_L_law_1683 (by omega) (by omega) (by omega) (by omega) (m2 _ (fun h1 mid => ?_))
  have e0 := (m1 h1 mid).1
  have e1 : h1 1001 0 = h 1001 0 := by rw [(m1 h1 mid).2]
  refine g_L_law_1697 (by omega) (by omega) (by omega) (by omega) ?_
  rw [e0]
  exact m3 h1 _ mid (fun h2 r2 f0 f1 => g_L_law_1711 (fun _ => K h2 r2 f0 f1) (fun q => absurd rfl q))

theorem lw_askIn {Q : PQ} {h : HP} {n : Nat} {x3 : Int} (E : LC n h x3) (K : ∀ h2, Rel (n + 1) h2 → h2 1000 = h 1000 → h2 1001 = h 1001 → Wp true i_L_law 2076 [vr 1000, vr 0, vr 103, vi x3] [] h2 Q) : Wp true i_L_law 1716 [vr 1000, vr 0, vr 103, vi x3] [] h Q := by
  have b1 := E.2.2.1
  have b2 := E.2.2.2.1
  obtain ⟨v, Mid, m1, m2, m3⟩ := A_askIn (h := h) (x1 := (h 1000 (x3 + 1).toNat)) (x2 := (h 1000 (x3 + 2).toNat)) (x3 := (h 1000 (x3 + 3).toNat)) E.1 
  obtain ⟨z, rfl⟩ := (ag_kind (mi := i_C_askIn) (by decide) m2).2 (by decide)
  refine g_L_law_1716 (by omega) (by omega) (by omega) (by omega) (by omega) (by omega) (m2 _ (fun h1 mid => ?_))
  have e0 := (m1 h1 mid).1
  have e1 : h1 1001 0 = h 1001 0 := by rw [(m1 h1 mid).2]
  refine g_L_law_1735 (by omega) (by omega) (by omega) (by omega) (by omega) (by omega) ?_
  rw [e0]
  exact m3 h1 _ mid (fun h2 r2 f0 f1 => g_L_law_1754 (fun _ => K h2 r2 f0 f1) (fun q => absurd rfl q))

theorem lw_price {Q : PQ} {h : HP} {n : Nat} {x3 : Int} (E : LC n h x3) (K : ∀ h2, Rel (n + 1) h2 → h2 1000 = h 1000 → h2 1001 = h 1001 → Wp true i_L_law 2076 [vr 1000, vr 0, vr 103, vi x3] [] h2 Q) : Wp true i_L_law 1759 [vr 1000, vr 0, vr 103, vi x3] [] h Q := by
  have b1 := E.2.2.1
  have b2 := E.2.2.2.1
  obtain ⟨v, Mid, m1, m2, m3⟩ := A_price (h := h) (x1 := (h 1000 (x3 + 1).toNat)) (x2 := (h 1000 (x3 + 2).toNat)) E.1 
  obtain ⟨z, rfl⟩ := (ag_kind (mi := i_C_price) (by decide) m2).2 (by decide)
  refine g_L_law_1759 (by omega) (by omega) (by omega) (by omega) (m2 _ (fun h1 mid => ?_))
  have e0 := (m1 h1 mid).1
  have e1 : h1 1001 0 = h 1001 0 := by rw [(m1 h1 mid).2]
  refine g_L_law_1773 (by omega) (by omega) (by omega) (by omega) ?_
  rw [e0]
  exact m3 h1 _ mid (fun h2 r2 f0 f1 => g_L_law_1787 (fun _ => K h2 r2 f0 f1) (fun q => absurd rfl q))

theorem lw_peace {Q : PQ} {h : HP} {n : Nat} {x3 : Int} (E : LC n h x3) (K : ∀ h2, Rel (n + 1) h2 → h2 1000 = h 1000 → h2 1001 = h 1001 → Wp true i_L_law 2076 [vr 1000, vr 0, vr 103, vi x3] [] h2 Q) : Wp true i_L_law 1792 [vr 1000, vr 0, vr 103, vi x3] [] h Q := by
  have b1 := E.2.2.1
  have b2 := E.2.2.2.1
  obtain ⟨v, Mid, m1, m2, m3⟩ := A_peace (h := h) (x1 := (h 1000 (x3 + 1).toNat)) (x2 := (h 1000 (x3 + 2).toNat)) E.1 
  obtain ⟨z, rfl⟩ := (ag_kind (mi := i_C_peace) (by decide) m2).2 (by decide)
  refine g_L_law_1792 (by omega) (by omega) (by omega) (by omega) (m2 _ (fun h1 mid => ?_))
  have e0 := (m1 h1 mid).1
  have e1 : h1 1001 0 = h 1001 0 := by rw [(m1 h1 mid).2]
  refine g_L_law_1806 (by omega) (by omega) (by omega) (by omega) ?_
  rw [e0]
  exact m3 h1 _ mid (fun h2 r2 f0 f1 => g_L_law_1820 (fun _ => K h2 r2 f0 f1) (fun q => absurd rfl q))

theorem lw_peaceIn {Q : PQ} {h : HP} {n : Nat} {x3 : Int} (E : LC n h x3) (K : ∀ h2, Rel (n + 1) h2 → h2 1000 = h 1000 → h2 1001 = h 1001 → Wp true i_L_law 2076 [vr 1000, vr 0, vr 103, vi x3] [] h2 Q) : Wp true i_L_law 1825 [vr 1000, vr 0, vr 103, vi x3] [] h Q := by
  have b1 := E.2.2.1
  have b2 := E.2.2.2.1
  obtain ⟨v, Mid, m1, m2, m3⟩ := A_peaceIn (h := h) (x1 := (h 1000 (x3 + 1).toNat)) (x2 := (h 1000 (x3 + 2).toNat)) (x3 := (h 1000 (x3 + 3).toNat)) E.1 
  obtain ⟨z, rfl⟩ := (ag_kind (mi := i_C_peaceIn) (by decide) m2).2 (by decide)
  refine g_L_law_1825 (by omega) (by omega) (by omega) (by omega) (by omega) (by omega) (m2 _ (fun h1 mid => ?_))
  have e0 := (m1 h1 mid).1
  have e1 : h1 1001 0 = h 1001 0 := by rw [(m1 h1 mid).2]
  refine g_L_law_1844 (by omega) (by omega) (by omega) (by omega) (by omega) (by omega) ?_
  rw [e0]
  exact m3 h1 _ mid (fun h2 r2 f0 f1 => g_L_law_1863 (fun _ => K h2 r2 f0 f1) (fun q => absurd rfl q))

theorem lw_lines {Q : PQ} {h : HP} {n : Nat} {x3 : Int} (E : LC n h x3) (K : ∀ h2, Rel (n + 1) h2 → h2 1000 = h 1000 → h2 1001 = h 1001 → Wp true i_L_law 2076 [vr 1000, vr 0, vr 103, vi x3] [] h2 Q) : Wp true i_L_law 1868 [vr 1000, vr 0, vr 103, vi x3] [] h Q := by
  have b1 := E.2.2.1
  have b2 := E.2.2.2.1
  obtain ⟨v, Mid, m1, m2, m3⟩ := A_lines (h := h) (x1 := (h 1000 (x3 + 1).toNat)) E.1 
  obtain ⟨z, rfl⟩ := (ag_kind (mi := i_C_lines) (by decide) m2).1 rfl
  refine g_L_law_1868 (by omega) (by omega) (m2 _ (fun h1 mid => ?_))
  have e0 := (m1 h1 mid).1
  have e1 : h1 1001 0 = h 1001 0 := by rw [(m1 h1 mid).2]
  refine g_L_law_1877 (by omega) (by omega) ?_
  rw [e0]
  exact m3 h1 _ mid (fun h2 r2 f0 f1 => g_L_law_1886 (fun _ => K h2 r2 f0 f1) (fun q => absurd rfl q))

theorem lw_sure {Q : PQ} {h : HP} {n : Nat} {x3 : Int} (E : LC n h x3) (K : ∀ h2, Rel (n + 1) h2 → h2 1000 = h 1000 → h2 1001 = h 1001 → Wp true i_L_law 2076 [vr 1000, vr 0, vr 103, vi x3] [] h2 Q) : Wp true i_L_law 1892 [vr 1000, vr 0, vr 103, vi x3] [] h Q := by
  have b1 := E.2.2.1
  have b2 := E.2.2.2.1
  obtain ⟨v, Mid, m1, m2, m3⟩ := A_sure (h := h) (x1 := (h 1000 (x3 + 1).toNat)) E.1 
  obtain ⟨z, rfl⟩ := (ag_kind (mi := i_C_sure) (by decide) m2).2 (by decide)
  refine g_L_law_1892 (by omega) (by omega) (m2 _ (fun h1 mid => ?_))
  have e0 := (m1 h1 mid).1
  have e1 : h1 1001 0 = h 1001 0 := by rw [(m1 h1 mid).2]
  refine g_L_law_1901 (by omega) (by omega) ?_
  rw [e0]
  exact m3 h1 _ mid (fun h2 r2 f0 f1 => g_L_law_1910 (fun _ => K h2 r2 f0 f1) (fun q => absurd rfl q))

theorem lw_game {Q : PQ} {h : HP} {n : Nat} {x3 : Int} (E : LC n h x3) (K : ∀ h2, Rel (n + 1) h2 → h2 1000 = h 1000 → h2 1001 = h 1001 → Wp true i_L_law 2076 [vr 1000, vr 0, vr 103, vi x3] [] h2 Q) : Wp true i_L_law 1915 [vr 1000, vr 0, vr 103, vi x3] [] h Q := by
  have b1 := E.2.2.1
  have b2 := E.2.2.2.1
  obtain ⟨v, Mid, m1, m2, m3⟩ := A_game (h := h) (x1 := (h 1000 (x3 + 1).toNat)) E.1 
  obtain ⟨z, rfl⟩ := (ag_kind (mi := i_C_game) (by decide) m2).2 (by decide)
  refine g_L_law_1915 (by omega) (by omega) (m2 _ (fun h1 mid => ?_))
  have e0 := (m1 h1 mid).1
  have e1 : h1 1001 0 = h 1001 0 := by rw [(m1 h1 mid).2]
  refine g_L_law_1924 (by omega) (by omega) ?_
  rw [e0]
  exact m3 h1 _ mid (fun h2 r2 f0 f1 => g_L_law_1933 (fun _ => K h2 r2 f0 f1) (fun q => absurd rfl q))

theorem lw_first {Q : PQ} {h : HP} {n : Nat} {x3 : Int} (E : LC n h x3) (K : ∀ h2, Rel (n + 1) h2 → h2 1000 = h 1000 → h2 1001 = h 1001 → Wp true i_L_law 2076 [vr 1000, vr 0, vr 103, vi x3] [] h2 Q) : Wp true i_L_law 1938 [vr 1000, vr 0, vr 103, vi x3] [] h Q := by
  have b1 := E.2.2.1
  have b2 := E.2.2.2.1
  obtain ⟨v, Mid, m1, m2, m3⟩ := A_first (h := h) (x1 := (h 1000 (x3 + 1).toNat)) E.1 
  obtain ⟨z, rfl⟩ := (ag_kind (mi := i_C_first) (by decide) m2).2 (by decide)
  refine g_L_law_1938 (by omega) (by omega) (m2 _ (fun h1 mid => ?_))
  have e0 := (m1 h1 mid).1
  have e1 : h1 1001 0 = h 1001 0 := by rw [(m1 h1 mid).2]
  refine g_L_law_1947 (by omega) (by omega) ?_
  rw [e0]
  exact m3 h1 _ mid (fun h2 r2 f0 f1 => g_L_law_1956 (fun _ => K h2 r2 f0 f1) (fun q => absurd rfl q))

theorem lw_live {Q : PQ} {h : HP} {n : Nat} {x3 : Int} (E : LC n h x3) (K : ∀ h2, Rel (n + 1) h2 → h2 1000 = h 1000 → h2 1001 = h 1001 → Wp true i_L_law 2076 [vr 1000, vr 0, vr 103, vi x3] [] h2 Q) : Wp true i_L_law 1961 [vr 1000, vr 0, vr 103, vi x3] [] h Q := by
  have b1 := E.2.2.1
  have b2 := E.2.2.2.1
  obtain ⟨v, Mid, m1, m2, m3⟩ := A_live (h := h) (x1 := (h 1000 (x3 + 1).toNat)) E.1 E.2.1
  obtain ⟨z, rfl⟩ := (ag_kind (mi := i_C_live) (by decide) m2).2 (by decide)
  refine g_L_law_1961 (by omega) (by omega) (m2 _ (fun h1 mid => ?_))
  have e0 := (m1 h1 mid).1
  have e1 : h1 1001 0 = h 1001 0 := by rw [(m1 h1 mid).2]
  refine g_L_law_1970 (by omega) (by omega) ?_
  rw [e0]
  exact m3 h1 _ mid (fun h2 r2 f0 f1 => g_L_law_1979 (fun _ => K h2 r2 f0 f1) (fun q => absurd rfl q))

theorem lw_lived {Q : PQ} {h : HP} {n : Nat} {x3 : Int} (E : LC n h x3) (K : ∀ h2, Rel (n + 1) h2 → h2 1000 = h 1000 → h2 1001 = h 1001 → Wp true i_L_law 2076 [vr 1000, vr 0, vr 103, vi x3] [] h2 Q) : Wp true i_L_law 1984 [vr 1000, vr 0, vr 103, vi x3] [] h Q := by
  have b1 := E.2.2.1
  have b2 := E.2.2.2.1
  obtain ⟨v, Mid, m1, m2, m3⟩ := A_lived (h := h) (x1 := (h 1000 (x3 + 1).toNat)) E.1 
  obtain ⟨z, rfl⟩ := (ag_kind (mi := i_C_lived) (by decide) m2).2 (by decide)
  refine g_L_law_1984 (by omega) (by omega) (m2 _ (fun h1 mid => ?_))
  have e0 := (m1 h1 mid).1
  have e1 : h1 1001 0 = h 1001 0 := by rw [(m1 h1 mid).2]
  refine g_L_law_1993 (by omega) (by omega) ?_
  rw [e0]
  exact m3 h1 _ mid (fun h2 r2 f0 f1 => g_L_law_2002 (fun _ => K h2 r2 f0 f1) (fun q => absurd rfl q))

theorem lw_mean {Q : PQ} {h : HP} {n : Nat} {x3 : Int} (E : LC n h x3) (K : ∀ h2, Rel (n + 1) h2 → h2 1000 = h 1000 → h2 1001 = h 1001 → Wp true i_L_law 2076 [vr 1000, vr 0, vr 103, vi x3] [] h2 Q) : Wp true i_L_law 2007 [vr 1000, vr 0, vr 103, vi x3] [] h Q := by
  have b1 := E.2.2.1
  have b2 := E.2.2.2.1
  obtain ⟨v, Mid, m1, m2, m3⟩ := A_mean (h := h) (x1 := (h 1000 (x3 + 1).toNat)) (x2 := (h 1000 (x3 + 2).toNat)) (x3 := (h 1000 (x3 + 3).toNat)) E.1 E.2.1
  obtain ⟨z, rfl⟩ := (ag_kind (mi := i_C_mean) (by decide) m2).2 (by decide)
  refine g_L_law_2007 (by omega) (by omega) (by omega) (by omega) (by omega) (by omega) (m2 _ (fun h1 mid => ?_))
  have e0 := (m1 h1 mid).1
  have e1 : h1 1001 0 = h 1001 0 := by rw [(m1 h1 mid).2]
  refine g_L_law_2026 (by omega) (by omega) (by omega) (by omega) (by omega) (by omega) ?_
  rw [e0]
  exact m3 h1 _ mid (fun h2 r2 f0 f1 => g_L_law_2045 (fun _ => K h2 r2 f0 f1) (fun q => absurd rfl q))

theorem lw_mark {Q : PQ} {h : HP} {n : Nat} {x3 : Int} (E : LC n h x3) (K : ∀ h2, Rel (n + 1) h2 → h2 1000 = h 1000 → h2 1001 = h 1001 → Wp true i_L_law 2076 [vr 1000, vr 0, vr 103, vi x3] [] h2 Q) : Wp true i_L_law 2050 [vr 1000, vr 0, vr 103, vi x3] [] h Q := by
  have b1 := E.2.2.1
  have b2 := E.2.2.2.1
  obtain ⟨v, Mid, m1, m2, m3⟩ := A_mark (h := h)  E.1 
  obtain ⟨z, rfl⟩ := (ag_kind (mi := i_C_mark) (by decide) m2).2 (by decide)
  refine g_L_law_2050 (m2 _ (fun h1 mid => ?_))
  have e0 := (m1 h1 mid).1
  have e1 : h1 1001 0 = h 1001 0 := by rw [(m1 h1 mid).2]
  refine g_L_law_2054 ?_
  exact m3 h1 _ mid (fun h2 r2 f0 f1 => g_L_law_2058 (fun _ => K h2 r2 f0 f1) (fun q => absurd rfl q))

theorem lw_undo {Q : PQ} {h : HP} {n : Nat} {x3 : Int} (E : LC n h x3) (K : ∀ h2, Rel (n + 1) h2 → h2 1000 = h 1000 → h2 1001 = h 1001 → Wp true i_L_law 2076 [vr 1000, vr 0, vr 103, vi x3] [] h2 Q) : Wp true i_L_law 2063 [vr 1000, vr 0, vr 103, vi x3] [] h Q := by
  have b1 := E.2.2.1
  have b2 := E.2.2.2.1
  obtain ⟨v, Mid, m1, m2, m3⟩ := A_undo (h := h)  E.1 
  obtain ⟨z, rfl⟩ := (ag_kind (mi := i_C_undo) (by decide) m2).2 (by decide)
  refine g_L_law_2063 (m2 _ (fun h1 mid => ?_))
  have e0 := (m1 h1 mid).1
  have e1 : h1 1001 0 = h 1001 0 := by rw [(m1 h1 mid).2]
  refine g_L_law_2067 ?_
  exact m3 h1 _ mid (fun h2 r2 f0 f1 => g_L_law_2071 (fun _ => K h2 r2 f0 f1) (fun q => absurd rfl q))

theorem law_loop {Q : PQ} {L : Nat} (hL : L ≤ 3072) {f : Nat → Int} (kf : ∀ h, Q (some (vi 1)) h) : ∀ (d n : Nat) (h : HP), d + n = 520 → Rel n h → h 1001 0 = (L : Int) → (∀ j : Nat, h 1000 j = f j) → (∀ j : Nat, j < L → in32 (f j)) → Wp true i_L_law 18 [vr 1000, vr 0, vr 103, vi (6 * (n : Int))] [] h Q := by
  intro d
  induction d with
  | zero =>
    intro n h hd hR e1 e0 hr
    refine g_L_law_18 (by omega) (fun _ => kf h) (fun q => by omega) (fun q _ => absurd (by omega) q) (fun q _ => absurd (by omega) q) (fun q _ => absurd (by omega) q) (fun q _ => absurd (by omega) q) (fun q _ => absurd (by omega) q) (fun q _ => absurd (by omega) q) (fun q _ => absurd (by omega) q) (fun q _ => absurd (by omega) q) (fun q _ => absurd (by omega) q) (fun q _ => absurd (by omega) q) (fun q _ => absurd (by omega) q) (fun q _ => absurd (by omega) q) (fun q _ => absurd (by omega) q) (fun q _ => absurd (by omega) q) (fun q _ => absurd (by omega) q) (fun q _ => absurd (by omega) q) (fun q _ => absurd (by omega) q) (fun q _ => absurd (by omega) q) (fun q _ => absurd (by omega) q) (fun q _ => absurd (by omega) q) (fun q _ => absurd (by omega) q) (fun q _ => absurd (by omega) q) (fun q _ => absurd (by omega) q) (fun q _ => absurd (by omega) q) (fun q _ => absurd (by omega) q) (fun q _ => absurd (by omega) q) (fun q _ => absurd (by omega) q) (fun q _ => absurd (by omega) q) (fun q _ => absurd (by omega) q) (fun q _ => absurd (by omega) q) (fun q _ => absurd (by omega) q) (fun q _ => absurd (by omega) q) (fun q _ => absurd (by omega) q) (fun q _ => absurd (by omega) q) (fun q _ => absurd (by omega) q) (fun q _ => absurd (by omega) q) (fun q _ => absurd (by omega) q) (fun q _ => absurd (by omega) q) (fun q _ => absurd (by omega) q) (fun q _ => absurd (by omega) q) (fun q _ => absurd (by omega) q) (fun q _ => absurd (by omega) q) (fun q _ => absurd (by omega) q) (fun q _ => absurd (by omega) q) (fun q _ => absurd (by omega) q) (fun q _ => absurd (by omega) q) (fun q _ => absurd (by omega) q) (fun q _ => absurd (by omega) q) (fun q _ => absurd (by omega) q) (fun q _ => absurd (by omega) q) (fun q _ => absurd (by omega) q) (fun q _ => absurd (by omega) q) (fun q _ => absurd (by omega) q) (fun q _ => absurd (by omega) q) (fun q _ => absurd (by omega) q) (fun q _ => absurd (by omega) q) (fun q _ => absurd (by omega) q) (fun q _ => absurd (by omega) q) (fun q _ => absurd (by omega) q) (fun q _ => absurd (by omega) q) (fun q _ => absurd (by omega) q) (fun q _ => absurd (by omega) q) (fun q _ _ _ _ _ _ _ _ _ _ _ _ _ _ _ _ _ _ _ _ _ _ _ _ _ _ _ _ _ _ _ _ _ _ _ _ _ _ _ _ _ _ _ _ _ _ _ _ _ _ _ _ _ _ _ _ _ _ _ _ _ _ => absurd (by omega) q)
  | succ d ih =>
    intro n h hd hR e1 e0 hr
    by_cases c : (h 1001 0) - 6 < 6 * (n : Int)
    · refine g_L_law_18 (by omega) (fun _ => kf h) (fun q => absurd c q) (fun q _ => absurd c q) (fun q _ => absurd c q) (fun q _ => absurd c q) (fun q _ => absurd c q) (fun q _ => absurd c q) (fun q _ => absurd c q) (fun q _ => absurd c q) (fun q _ => absurd c q) (fun q _ => absurd c q) (fun q _ => absurd c q) (fun q _ => absurd c q) (fun q _ => absurd c q) (fun q _ => absurd c q) (fun q _ => absurd c q) (fun q _ => absurd c q) (fun q _ => absurd c q) (fun q _ => absurd c q) (fun q _ => absurd c q) (fun q _ => absurd c q) (fun q _ => absurd c q) (fun q _ => absurd c q) (fun q _ => absurd c q) (fun q _ => absurd c q) (fun q _ => absurd c q) (fun q _ => absurd c q) (fun q _ => absurd c q) (fun q _ => absurd c q) (fun q _ => absurd c q) (fun q _ => absurd c q) (fun q _ => absurd c q) (fun q _ => absurd c q) (fun q _ => absurd c q) (fun q _ => absurd c q) (fun q _ => absurd c q) (fun q _ => absurd c q) (fun q _ => absurd c q) (fun q _ => absurd c q) (fun q _ => absurd c q) (fun q _ => absurd c q) (fun q _ => absurd c q) (fun q _ => absurd c q) (fun q _ => absurd c q) (fun q _ => absurd c q) (fun q _ => absurd c q) (fun q _ => absurd c q) (fun q _ => absurd c q) (fun q _ => absurd c q) (fun q _ => absurd c q) (fun q _ => absurd c q) (fun q _ => absurd c q) (fun q _ => absurd c q) (fun q _ => absurd c q) (fun q _ => absurd c q) (fun q _ => absurd c q) (fun q _ => absurd c q) (fun q _ => absurd c q) (fun q _ => absurd c q) (fun q _ => absurd c q) (fun q _ => absurd c q) (fun q _ => absurd c q) (fun q _ => absurd c q) (fun q _ => absurd c q) (fun q _ _ _ _ _ _ _ _ _ _ _ _ _ _ _ _ _ _ _ _ _ _ _ _ _ _ _ _ _ _ _ _ _ _ _ _ _ _ _ _ _ _ _ _ _ _ _ _ _ _ _ _ _ _ _ _ _ _ _ _ _ _ => absurd c q)
    · have E : LC n h (6 * (n : Int)) := ⟨hR, by omega, by omega, by omega, fun j hj => by rw [e0]; exact hr j (by omega)⟩
      have nxt' : ∀ h2, Rel (n + 1) h2 → h2 1000 = h 1000 → h2 1001 = h 1001 → Wp true i_L_law 2076 [vr 1000, vr 0, vr 103, vi (6 * (n : Int))] [] h2 Q := by
        intro h2 r2 f0 f1
        refine g_L_law_2076 (by omega) ?_
        have := ih (n + 1) h2 (by omega) r2 (by rw [f1]; exact e1) (fun j => by rw [f0]; exact e0 j) hr
        rw [show 6 * ((n + 1 : Nat) : Int) = 6 * (n : Int) + 6 by omega] at this
        exact this
      exact g_L_law_18 (by omega) (fun _ => kf h) (fun _ => by omega) (fun c _ => lw_status E (fun h2 r2 f0 f1 => nxt' h2 r2 f0 f1)) (fun c _ => lw_top E (fun h2 r2 f0 f1 => nxt' h2 r2 f0 f1)) (fun c _ => lw_bottom E (fun h2 r2 f0 f1 => nxt' h2 r2 f0 f1)) (fun c _ => lw_tray E (fun h2 r2 f0 f1 => nxt' h2 r2 f0 f1)) (fun c _ => lw_write E (fun h2 r2 f0 f1 => nxt' h2 r2 f0 f1)) (fun c _ => lw_read E (fun h2 r2 f0 f1 => nxt' h2 r2 f0 f1)) (fun c _ => lw_pour E (fun h2 r2 f0 f1 => nxt' h2 r2 f0 f1)) (fun c _ => lw_feed E (fun h2 r2 f0 f1 => nxt' h2 r2 f0 f1)) (fun c _ => lw_room E (fun h2 r2 f0 f1 => nxt' h2 r2 f0 f1)) (fun c _ => lw_talks E (fun h2 r2 f0 f1 => nxt' h2 r2 f0 f1)) (fun c _ => lw_fault E (fun h2 r2 f0 f1 => nxt' h2 r2 f0 f1)) (fun c _ => lw_told E (fun h2 r2 f0 f1 => nxt' h2 r2 f0 f1)) (fun c _ => lw_line E (fun h2 r2 f0 f1 => nxt' h2 r2 f0 f1)) (fun c _ => lw_thing E (fun h2 r2 f0 f1 => nxt' h2 r2 f0 f1)) (fun c _ => lw_on E (fun h2 r2 f0 f1 => nxt' h2 r2 f0 f1)) (fun c _ => lw_land E (fun h2 r2 f0 f1 => nxt' h2 r2 f0 f1)) (fun c _ => lw_boards E (fun h2 r2 f0 f1 => nxt' h2 r2 f0 f1)) (fun c _ => lw_value E (fun h2 r2 f0 f1 => nxt' h2 r2 f0 f1)) (fun c _ => lw_things E (fun h2 r2 f0 f1 => nxt' h2 r2 f0 f1)) (fun c _ => lw_share E (fun h2 r2 f0 f1 => nxt' h2 r2 f0 f1)) (fun c _ => lw_envy E (fun h2 r2 f0 f1 => nxt' h2 r2 f0 f1)) (fun c _ => lw_fair E (fun h2 r2 f0 f1 => nxt' h2 r2 f0 f1)) (fun c _ => lw_chalk E (fun h2 r2 f0 f1 => nxt' h2 r2 f0 f1)) (fun c _ => lw_bulges E (fun h2 r2 f0 f1 => nxt' h2 r2 f0 f1)) (fun c _ => lw_border E (fun h2 r2 f0 f1 => nxt' h2 r2 f0 f1)) (fun c _ => lw_strongest E (fun h2 r2 f0 f1 => nxt' h2 r2 f0 f1)) (fun c _ => lw_least E (fun h2 r2 f0 f1 => nxt' h2 r2 f0 f1)) (fun c _ => lw_wanted E (fun h2 r2 f0 f1 => nxt' h2 r2 f0 f1)) (fun c _ => lw_cede E (fun h2 r2 f0 f1 => nxt' h2 r2 f0 f1)) (fun c _ => lw_night E (fun h2 r2 f0 f1 => nxt' h2 r2 f0 f1)) (fun c _ => lw_sweep E (fun h2 r2 f0 f1 => nxt' h2 r2 f0 f1)) (fun c _ => lw_move E (fun h2 r2 f0 f1 => nxt' h2 r2 f0 f1)) (fun c _ => lw_leg E (fun h2 r2 f0 f1 => nxt' h2 r2 f0 f1)) (fun c _ => lw_bends E (fun h2 r2 f0 f1 => nxt' h2 r2 f0 f1)) (fun c _ => lw_draw E (fun h2 r2 f0 f1 => nxt' h2 r2 f0 f1)) (fun c _ => lw_copy E (fun h2 r2 f0 f1 => nxt' h2 r2 f0 f1)) (fun c _ => lw_islands E (fun h2 r2 f0 f1 => nxt' h2 r2 f0 f1)) (fun c _ => lw_island E (fun h2 r2 f0 f1 => nxt' h2 r2 f0 f1)) (fun c _ => lw_mainland E (fun h2 r2 f0 f1 => nxt' h2 r2 f0 f1)) (fun c _ => lw_joined E (fun h2 r2 f0 f1 => nxt' h2 r2 f0 f1)) (fun c _ => lw_passes E (fun h2 r2 f0 f1 => nxt' h2 r2 f0 f1)) (fun c _ => lw_steps E (fun h2 r2 f0 f1 => nxt' h2 r2 f0 f1)) (fun c _ => lw_reach E (fun h2 r2 f0 f1 => nxt' h2 r2 f0 f1)) (fun c _ => lw_strait E (fun h2 r2 f0 f1 => nxt' h2 r2 f0 f1)) (fun c _ => lw_bridge E (fun h2 r2 f0 f1 => nxt' h2 r2 f0 f1)) (fun c _ => lw_bridged E (fun h2 r2 f0 f1 => nxt' h2 r2 f0 f1)) (fun c _ => lw_give E (fun h2 r2 f0 f1 => nxt' h2 r2 f0 f1)) (fun c _ => lw_giveIn E (fun h2 r2 f0 f1 => nxt' h2 r2 f0 f1)) (fun c _ => lw_ask E (fun h2 r2 f0 f1 => nxt' h2 r2 f0 f1)) (fun c _ => lw_askIn E (fun h2 r2 f0 f1 => nxt' h2 r2 f0 f1)) (fun c _ => lw_price E (fun h2 r2 f0 f1 => nxt' h2 r2 f0 f1)) (fun c _ => lw_peace E (fun h2 r2 f0 f1 => nxt' h2 r2 f0 f1)) (fun c _ => lw_peaceIn E (fun h2 r2 f0 f1 => nxt' h2 r2 f0 f1)) (fun c _ => lw_lines E (fun h2 r2 f0 f1 => nxt' h2 r2 f0 f1)) (fun c _ => lw_sure E (fun h2 r2 f0 f1 => nxt' h2 r2 f0 f1)) (fun c _ => lw_game E (fun h2 r2 f0 f1 => nxt' h2 r2 f0 f1)) (fun c _ => lw_first E (fun h2 r2 f0 f1 => nxt' h2 r2 f0 f1)) (fun c _ => lw_live E (fun h2 r2 f0 f1 => nxt' h2 r2 f0 f1)) (fun c _ => lw_lived E (fun h2 r2 f0 f1 => nxt' h2 r2 f0 f1)) (fun c _ => lw_mean E (fun h2 r2 f0 f1 => nxt' h2 r2 f0 f1)) (fun c _ => lw_mark E (fun h2 r2 f0 f1 => nxt' h2 r2 f0 f1)) (fun c _ => lw_undo E (fun h2 r2 f0 f1 => nxt' h2 r2 f0 f1)) (fun _ _ _ _ _ _ _ _ _ _ _ _ _ _ _ _ _ _ _ _ _ _ _ _ _ _ _ _ _ _ _ _ _ _ _ _ _ _ _ _ _ _ _ _ _ _ _ _ _ _ _ _ _ _ _ _ _ _ _ _ _ _ _ => nxt' h (Rel_up hR) rfl rfl)
