/-! ===== where all cells are there, both modes do the same ===== -/
def Full (h : HP) : Prop := h 1002 0 = 123 ∧ (∀ k y, y < 64 → zfk (64 * zck k + y) = 4 → h k y = 1) ∧ ∀ k j : Nat, (zck k = 23 ∨ zck k = 24) → j < zcn k → h k j = 1
theorem zfk_23 (y : Nat) : zfk (1472 + y) = 9 := by
  unfold zfk
  repeat (first | rfl | rw [if_neg (by omega)])
theorem zfk_24 (y : Nat) : zfk (1536 + y) = 9 := by
  unfold zfk
  repeat (first | rfl | rw [if_neg (by omega)])
theorem zfN_64 : ∀ x, x < 13 → zfN x < 64 := by decide +kernel
theorem Full_a {h : HP} {k i : Nat} {v : Int} (F : Full h) (hk : zck k = 20 ∨ zck k = 21 ∨ zck k = 22) (hz : ∀ y, y < 64 → zfk (64 * zck k + y) ≠ 4) : Full (hs h k i v) := by
  have k2 : (1002 : Nat) ≠ k := fun e => by subst e; have := zck_1002; omega
  refine ⟨by rw [hs_ne k2]; exact F.1, fun k' y hy hf => ?_, fun k' j hk' hj => ?_⟩
  · by_cases e : k' = k
    · subst e; exact absurd hf (hz y hy)
    · rw [hs_ne e]; exact F.2.1 k' y hy hf
  · by_cases e : k' = k
    · subst e; omega
    · rw [hs_ne e]; exact F.2.2 k' j hk' hj
theorem zfk_ar : ∀ y, y < 64 → zfk (64 * 20 + y) ≠ 4 ∧ zfk (64 * 21 + y) ≠ 4 ∧ zfk (64 * 22 + y) ≠ 4 := by decide +kernel
theorem Full_a20 {h : HP} {k i : Nat} {v : Int} (F : Full h) (hk : zck k = 20 ∨ zck k = 21 ∨ zck k = 22) : Full (hs h k i v) :=
  Full_a F hk (fun y hy => by
    have := zfk_ar y hy
    rcases hk with e | e | e <;> rw [e]
    · exact this.1
    · exact this.2.1
    · exact this.2.2)
theorem Full_f {h : HP} {k x y : Nat} {v : Int} (F : Full h) (hk : zck k = x) (hf : zfk (64 * x + y) = 0 ∨ zfk (64 * x + y) = 1 ∨ zfk (64 * x + y) = 3) : Full (hs h k y v) := by
  have k2 : (1002 : Nat) ≠ k := by
    intro e
    subst e
    have := zck_1002
    rw [this] at hk
    subst hk
    have : zfk (64 * 99 + y) = 9 := zfk_hi y
    omega
  refine ⟨by rw [hs_ne k2]; exact F.1, fun k' y' hy hf' => ?_, fun k' j hk' hj => ?_⟩
  · by_cases e : k' = k ∧ y' = y
    · obtain ⟨rfl, rfl⟩ := e
      rw [hk] at hf'
      omega
    · rw [hs_o (by omega)]; exact F.2.1 k' y' hy hf'
  · by_cases e : k' = k
    · subst e
      rw [hk] at hk'
      rcases hk' with e | e
      · have : zfk (64 * 23 + y) = 9 := zfk_23 y
        rw [e] at hf
        omega
      · have : zfk (64 * 24 + y) = 9 := zfk_24 y
        rw [e] at hf
        omega
    · rw [hs_ne e]; exact F.2.2 k' j hk' hj
theorem Full_c {h : HP} {a sp b dp n : Nat} (F : Full h) (hk : zck b = 20 ∨ zck b = 21) : Full (cpy h a sp b dp n) := by
  have k2 : (1002 : Nat) ≠ b := fun e => by subst e; have := zck_1002; omega
  have o : ∀ k i, k ≠ b → cpy h a sp b dp n k i = h k i := fun k i e => if_neg (fun q => e q.1)
  refine ⟨by rw [o _ _ k2]; exact F.1, fun k' y hy hf => ?_, fun k' j hk' hj => ?_⟩
  · by_cases e : k' = b
    · subst e
      have := zfk_ar y hy
      rcases hk with e | e <;> rw [e] at hf <;> omega
    · rw [o _ _ e]; exact F.2.1 k' y hy hf
  · by_cases e : k' = b
    · subst e; omega
    · rw [o _ _ e]; exact F.2.2 k' j hk' hj
theorem sx_full {mi pc : Nat} {ls st : List AV} {h : HP} {pc' : Nat} {ls' st' : List AV} {h' : HP} (F : Full h) (hx : sx true mi pc ls st h = some (.inl (pc', ls', st', h'))) : Full h' := by
  unfold sx at hx
  split at hx
  · cases hx
  · unfold sxi at hx
    split at hx
    all_goals
      try simp only [ipush, ildc, ildi, ildj, ilda, isti, istj, ista, iinc0, ibin, idiv0, icv, ii2l, il2i, jbin, jdiv0, jsh, ilcmp, iald, bald, jald, aald, iast, bast, jast, aast, alen, iget, iput, iinv, icall, inew, inewa, ibr, ibr2, isw, ilk, idup, idup2, ipop, iret, jret, vret, nxt] at hx
      repeat' (split at hx)
      all_goals first
        | (simp at hx; done)
        | (simp only [Option.some.injEq, Sum.inl.injEq, Prod.mk.injEq] at hx
           obtain ⟨-, -, -, rfl⟩ := hx
           first
             | exact F
             | (exfalso; simp_all; done)
             | (apply Full_a20 F; omega)
             | (rename_i hh; exact Full_f F hh.1 (by omega))
             | (apply Full_c F; omega))
theorem iget_tf {pc : Nat} {ls st : List AV} {h : HP} {x y : Nat} {r : SR} (F : Full h) (hy : y < 64) (hx : iget true pc ls st h x y = some r) : iget false pc ls st h x y = some r := by
  unfold iget at hx ⊢
  rcases st with _ | ⟨v, st⟩
  · exact hx
  · rcases v with z | z | k
    · exact hx
    · exact hx
    · dsimp only at hx ⊢
      by_cases c : zck k = x
      · rw [if_pos c] at hx ⊢
        by_cases c1 : zfk (64 * x + y) = 0 ∨ zfk (64 * x + y) = 3
        · rw [if_pos c1] at hx ⊢; exact hx
        · rw [if_neg c1] at hx ⊢
          by_cases c2 : zfk (64 * x + y) = 1
          · rw [if_pos c2] at hx ⊢; exact hx
          · rw [if_neg c2] at hx ⊢
            by_cases c3 : zfk (64 * x + y) = 4
            · rw [if_pos ⟨c3, Or.inl rfl⟩] at hx
              rw [if_pos ⟨c3, Or.inr (F.2.1 k y hy (by rw [c]; exact c3))⟩]
              exact hx
            · rw [if_neg (fun q => c3 q.1)] at hx ⊢; exact hx
      · rw [if_neg c] at hx ⊢; exact hx
theorem aald_tf {pc : Nat} {ls st : List AV} {h : HP} {r : SR} (F : Full h) (hx : aald true pc ls st h = some r) : aald false pc ls st h = some r := by
  unfold aald at hx ⊢
  rcases st with _ | ⟨v, st⟩
  · exact hx
  · rcases v with i | z | z
    · rcases st with _ | ⟨w, st⟩
      · exact hx
      · rcases w with z | z | k
        · exact hx
        · exact hx
        · dsimp only at hx ⊢
          by_cases c : (zck k = 23 ∨ zck k = 24) ∧ 0 ≤ i ∧ i < zcn k ∧ (true = true ∨ h k i.toNat = 1)
          · rw [if_pos c] at hx
            rw [if_pos ⟨c.1, c.2.1, c.2.2.1, Or.inr (F.2.2 k i.toNat c.1 (by have := c.2.2.1; have := c.2.1; omega))⟩]
            exact hx
          · rw [if_neg c] at hx
            cases hx
    · exact hx
    · exact hx
theorem iput_tf {mi pc : Nat} {ls st : List AV} {h : HP} {x y : Nat} {r : SR} (hx : iput true mi pc ls st h x y = some r) : iput false mi pc ls st h x y = some r := by
  unfold iput at hx ⊢
  split at hx
  · exact hx
  · exact hx
  · split at hx
    · rename_i c
      exact absurd c.2.2.1 (by decide)
    · cases hx
  · cases hx
theorem inewa_t {pc len : Nat} {ls st : List AV} {h : HP} {kd : Nat} {r : SR} (hx : inewa true pc len ls st h kd = some r) : False := by
  unfold inewa at hx
  split at hx
  · split at hx
    · rename_i c
      exact absurd c.1 (by decide)
    · cases hx
  · cases hx
theorem sx_tf {mi pc : Nat} {ls st : List AV} {h : HP} {r : SR} (hm : mi < 381) (F : Full h) (hx : sx true mi pc ls st h = some r) : sx false mi pc ls st h = some r := by
  unfold sx at hx ⊢
  cases hf : zfetch mi pc with
  | none => rw [hf] at hx; cases hx
  | some q =>
    obtain ⟨I, len, x, y, z, c⟩ := q
    rw [hf] at hx
    have ok := (entry_ok hm hf).2
    dsimp only at hx ⊢
    cases I with
    | getfield idx =>
      have hy : y < 64 := by
        unfold okI at ok
        simp only [Bool.and_eq_true, decide_eq_true_eq] at ok
        have := zfN_64 x ok.1.2.1
        have := ok.1.2.2
        omega
      exact iget_tf F hy hx
    | putfield idx => exact iput_tf hx
    | aaload => exact aald_tf F hx
    | aastore =>
      have hx : aast true pc ls st h = some r := hx
      unfold aast at hx
      split at hx
      · split at hx
        · rename_i c
          exact absurd c.1 (by decide)
        · cases hx
      · cases hx
    | new idx =>
      have hx : inew true pc ls st h x = some r := hx
      unfold inew at hx
      split at hx
      · rename_i c
        exact absurd c.1 (by decide)
      · cases hx
    | newarray t => cases t <;> first | exact (inewa_t hx).elim | exact hx
    | anewarray idx =>
      have hx : (if x = 3 then inewa true pc 3 ls st h 23 else if x = 7 then inewa true pc 3 ls st h 24 else none) = some r := hx
      split at hx
      · exact (inewa_t hx).elim
      · split at hx
        · exact (inewa_t hx).elim
        · cases hx
    | _ => exact hx
theorem wp_tf : ∀ (n mi pc : Nat) (ls st : List AV) (h : HP) (Q : PQ), mi < 381 → Full h → wp true n mi pc ls st h Q → wp false n mi pc ls st h (fun r h' => Q r h' ∧ Full h') := by
  intro n
  induction n with
  | zero => intro mi pc ls st h Q _ _ hw; exact hw.elim
  | succ n ih =>
    intro mi pc ls st h Q hm F hw
    unfold wp at hw ⊢
    cases hsx : sx true mi pc ls st h with
    | none => rw [hsx] at hw; exact hw.elim
    | some r =>
      rw [hsx] at hw
      rw [sx_tf hm F hsx]
      rcases r with ⟨pc', ls', st', h'⟩ | r | ⟨mj, as, st'⟩
      · exact ih mi pc' ls' st' h' Q hm (sx_full F hsx) hw
      · exact ⟨hw, F⟩
      · exact wp_mono false n n _ _ _ _ _ _ _ (Nat.le_refl _) (fun r h' q => ih mi _ _ _ _ _ hm q.2 q.1) (ih mj 0 _ _ _ _ (sx_call hm hsx).1 F hw)
theorem Wp_tf {mi pc : Nat} {ls st : List AV} {h : HP} {Q : PQ} (hm : mi < 381) (F : Full h) (hw : Wp true mi pc ls st h Q) : Wp false mi pc ls st h (fun r h' => Q r h' ∧ Full h') := by
  obtain ⟨n, hn⟩ := hw
  exact ⟨n, wp_tf n mi pc ls st h Q hm F hn⟩
