/-! ===== GAMES: what a move changes ===== -/
def gnT (R : HP) (c : Int) (r t : Nat) : Int := if R 3 t = (r : Int) ∧ R 6 t < 0 ∧ R 2 t = c then rWo R 0 t + rWo R 1 t else 0
def gnG (R : HP) (c : Int) (r : Nat) : Int := sumF (fun t => gnT R c r t) (R 0 3).toNat 0
def vLd (R : HP) : Int := rVal R 0 0 - rVal R 1 1
theorem gnG_rg {R : HP} (W : WR R) (c : Int) (r : Nat) : 0 ≤ gnG R c r ∧ gnG R c r ≤ 1980 := by
  have w := W.1
  have := sumF_rng (f := fun t => gnT R c r t) (a := 0) (b := 198) (R 0 3).toNat 0 (fun j _ h => by
    have a := rWo_b W (ld := 0) (t := j) (by omega)
    have b := rWo_b W (ld := 1) (t := j) (by omega)
    unfold gnT
    split <;> omega)
  unfold gnG
  omega
theorem rHo_K {R : HP} (t : Nat) : rHo R t = hoK R (R 1 (R 3 t).toNat) t := rfl
theorem rHo_up {R : HP} {r : Nat} {v : Int} (t : Nat) : rHo (hs R 1 r v) t = hoK R (if (R 3 t).toNat = r then v else R 1 (R 3 t).toNat) t := by
  unfold rHo hoK
  rw [hs_ne (k' := 6) (by decide), hs_ne (k' := 2) (by decide), hs_ne (k' := 3) (by decide)]
  by_cases z : (R 3 t).toNat = r
  · rw [if_pos z, z, hs_s]
  · rw [if_neg z, hs_o (Or.inr z)]
theorem vLd_up {R : HP} (W : WR R) {r : Nat} : vLd (hs R 1 r (R 1 r + 1)) = vLd R + gnG R (R 1 r) r := by
  have e : rVal (hs R 1 r (R 1 r + 1)) 0 0 + rVal R 1 1 = rVal R 0 0 + rVal (hs R 1 r (R 1 r + 1)) 1 1 + gnG R (R 1 r) r := by
    unfold rVal gnG
    rw [hs_ne (k' := 0) (by decide), ← sumF_add, ← sumF_add, ← sumF_add]
    refine sumF_congr _ _ (fun t _ h => ?_)
    have w := W.1
    have q := W.2.2.1 t (by omega)
    have a := hoK_c R (if (R 3 t).toNat = r then R 1 r + 1 else R 1 (R 3 t).toNat) t
    have b := hoK_c R (R 1 (R 3 t).toNat) t
    have w0 : ∀ l, rWo (hs R 1 r (R 1 r + 1)) l t = rWo R l t := fun l => by
      unfold rWo
      rw [hs_ne (k' := 4) (by decide), hs_ne (k' := 5) (by decide)]
    rw [rHo_up, rHo_K, w0, w0]
    unfold gnT
    generalize rWo R 0 t = p
    generalize rWo R 1 t = s
    by_cases z : (R 3 t).toNat = r
    · rw [if_pos z] at a ⊢
      rw [z] at b ⊢
      generalize hoK R (R 1 r + 1) t = x at a ⊢
      generalize hoK R (R 1 r) t = y at b ⊢
      (repeat' split) <;> omega
    · rw [if_neg z] at a ⊢
      generalize hoK R (R 1 (R 3 t).toNat) t = y at b ⊢
      (repeat' split) <;> omega
  unfold vLd
  omega
