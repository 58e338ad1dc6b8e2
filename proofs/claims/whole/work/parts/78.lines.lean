theorem A_lines {n : Nat} {h : HP} {x1 : Int} (hR : Rel n h) : Agree n h i_C_lines i_M_lines [vr 0, vi x1] [vr 103, vi x1, vr 9999, vr 9999] := by
  have W := hR.2.2.2.2.2.1.2.1
  have w := W.1
  by_cases c : 0 ≤ x1 ∧ x1 ≤ 63
  · obtain ⟨b, rfl⟩ : ∃ b : Nat, x1 = b := ⟨x1.toNat, by omega⟩
    refine ag_scr (v := vj (liN (rmC h 10) b)) (st := 0) hR (fun Q k => ?_) (fun g Q e gk k => ?_)
    · refine g_C_lines_0 (fun _ => ?_) (fun q => absurd c q)
      have e1 : rmC (hs h 0 0 0) 10 = rmC h 10 := rC_off (Or.inl (by decide))
      refine c_Bo_howMany isF_10 e1 W (by omega) (fun h' f => g_C_lines_34 ?_)
      have k := k (hs h' 0 0 (h 0 0)) (fun k hk => by
        by_cases z : k = 0
        · subst z
          funext i
          by_cases y : i = 0
          · subst y; rw [hs_s]
          · rw [hs_o (Or.inr y), f 0 (by decide) (by decide), hs_o (Or.inr y)]
        · rw [hs_ne z, f k (by omega) (by omega), hs_ne z])
      have e2 : hs (hs h' 0 0 (h 0 0)) 0 0 0 = h' := hs_back (by rw [f 0 (by decide) (by decide), hs_s])
      rw [e2] at k
      exact k
    · have d := mdim e
      by_cases z : g 104 1 = 0
      · have el : liN (rmC h 10) b = if b = 0 then 1 else 0 := if_neg (by omega)
        have k := k g (ScM_0 (fun _ _ => rfl))
        rw [el] at k
        refine g_M_lines_0 (fun _ q => absurd z q) (fun _ _ q => g_M_lines_45 ?_) (fun _ _ q => g_M_lines_45 ?_) (fun q => absurd c q)
        · rw [if_neg (by omega)] at k; exact k
        · rw [if_pos (by omega)] at k; exact k
      · refine g_M_lines_0 (fun _ _ => ?_) (fun _ q => absurd q z) (fun _ q => absurd q z) (fun q => absurd c q)
        exact c_M_laysLines e W (by omega) (by omega) (fun g' f T => g_M_lines_45 (k g' (ScM_0 (fun k hk => f k (by omega) (by omega)))))
  · refine ag_act0 (v := vj (-1)) (st := 1) hR (fun Q k => ?_) (fun g Q e gk k => ?_)
    · exact g_C_lines_0 (fun q => absurd q c) (fun _ => k)
    · exact g_M_lines_0 (fun q => absurd q c) (fun q => absurd q c) (fun q => absurd q c) (fun _ => k)
