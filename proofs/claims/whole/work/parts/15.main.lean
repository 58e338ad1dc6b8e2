/-! ===== the whole: what the numbers come to, the machine comes to ===== -/
theorem nxt_inj {pc pc' : Nat} {ls ls' st st' : List AV} {h h' : HP} : nxt pc ls st h = some (.inl (pc', ls', st', h')) ↔ pc = pc' ∧ ls = ls' ∧ st = st' ∧ h = h' := by simp [nxt]
theorem zal_hs {h : HP} {k i : Nat} {v : Int} (hk : k ≠ 1002) : zal (hs h k i v) = zal h := by simp [zal, hs, Ne.symm hk]
theorem zal_new (h : HP) : zal h ≤ zal (hs h 1002 0 ((zal h + 1 : Nat) : Int)) := by
  have : zal (hs h 1002 0 ((zal h + 1 : Nat) : Int)) = zal h + 1 := by
    show ((hs h 1002 0 ((zal h + 1 : Nat) : Int)) 1002 0).toNat = _
    simp only [hs, and_self, if_true, Int.toNat_natCast]
  omega
theorem zal_cpy {h : HP} {a sp b dp n : Nat} (hb : b ≠ 1002) : zal (cpy h a sp b dp n) = zal h := by simp [zal, cpy, Ne.symm hb]
theorem zck_1002 : zck 1002 = 99 := rfl
theorem zfk_hi (y : Nat) : zfk (6336 + y) = 9 := by
  unfold zfk
  repeat (first | rfl | rw [if_neg (by omega)])
/-- no step takes cells away -/
theorem sx_le {b : Bool} {mi pc : Nat} {ls st : List AV} {h : HP} {pc' : Nat} {ls' st' : List AV} {h' : HP} (hx : sx b mi pc ls st h = some (.inl (pc', ls', st', h'))) : zal h ≤ zal h' := by
  have key : ∀ {k i : Nat} {v : Int}, zck k ≠ 99 → zal h ≤ zal (hs h k i v) := fun {k i v} hk => by
    have : k ≠ 1002 := fun e => hk (by rw [e]; rfl)
    rw [zal_hs this]
    exact Nat.le_refl _
  unfold sx at hx
  split at hx
  · cases hx
  · unfold sxi at hx
    split at hx
    all_goals
      try simp only [ipush, ildc, ildi, ildj, ilda, isti, istj, ista, iinc0, ibin, idiv0, icv, ii2l, il2i, jbin, jdiv0, jsh, ilcmp, iald, bald, jald, aald, iast, bast, jast, aast, alen, iget, iput, iinv, icall, inew, inewa, ibr, ibr2, isw, ilk, idup, idup2, ipop, iret, jret, vret, nxt] at hx
      repeat' (split at hx)
      all_goals first
        | (simp at hx; done)
        | (simp only [Option.some.injEq, Sum.inl.injEq, Prod.mk.injEq] at hx
           obtain ⟨-, -, -, rfl⟩ := hx
           first
             | exact Nat.le_refl _
             | exact zal_new h
             | (apply key; omega)
             | (rename_i hh; apply key; intro e; rw [hh.1] at e; subst e; simp [zfk_hi] at hh)
             | (rw [zal_cpy (fun e => by subst e; have := zck_1002; omega)]; exact Nat.le_refl _))
theorem zA_le {b : Bool} {h h' : HP} (hl : zal h ≤ zal h') : zA b h ≤ zA b h' := by
  unfold zA
  split
  · exact Nat.le_refl _
  · exact hl
theorem wp_le (b : Bool) (aE : Nat) : ∀ (n mi pc : Nat) (ls st : List AV) (h : HP) (Q : PQ), wp b n mi pc ls st h Q → (∀ r h', Q r h' → zA b h' ≤ aE) → zA b h ≤ aE := by
  intro n
  induction n with
  | zero => intro mi pc ls st h Q hw; exact hw.elim
  | succ n ih =>
    intro mi pc ls st h Q hw hq
    unfold wp at hw
    cases hsx : sx b mi pc ls st h with
    | none => rw [hsx] at hw; exact hw.elim
    | some r =>
      rw [hsx] at hw
      rcases r with ⟨pc', ls', st', h'⟩ | r | ⟨mj, as, st'⟩
      · exact Nat.le_trans (zA_le (sx_le hsx)) (ih mi pc' ls' st' h' Q hw hq)
      · exact hq _ _ hw
      · exact ih mj 0 _ _ _ _ hw (fun r h' q => ih mi _ _ _ _ _ q hq)
