theorem FinG_ex {R : HP} (W : WR R) (m : Nat) : ∃ o f, FinG R m o f := by
  obtain ⟨o, ⟨⟨r, mo, g⟩, all⟩⟩ := Gv_ex (m + 1) (Or.inl rfl) W
  have s0 : sgL 0 = 1 := rfl
  have key : ∀ d r : Nat, r ≤ d → Mo R 0 r → Gv m 1 (mvG R 0 r) o → ∃ f, FinG R m o f := by
    intro d
    induction d with
    | zero =>
      intro r hr mo g
      exact ⟨r, mo, g, fun r' u m' g' => by have := all r' u m' g'; rw [s0] at this; omega, fun r' u h' => by omega⟩
    | succ d ih =>
      intro r hr mo g
      by_cases z : ∃ r', r' < r ∧ Mo R 0 r' ∧ Gv m 1 (mvG R 0 r') o
      · obtain ⟨r', a, b, c⟩ := z
        exact ih r' (by omega) b c
      · refine ⟨r, mo, g, fun r' u m' g' => by have := all r' u m' g'; rw [s0] at this; omega, fun r' u h' m' g' => ?_⟩
        have := all r' u m' g'
        rw [s0] at this
        by_cases y : u = o
        · subst y; exact absurd ⟨r', h', m', g'⟩ z
        · omega
  obtain ⟨f, F⟩ := key r r (Nat.le_refl _) mo g
  exact ⟨o, f, F⟩
theorem A_game {n : Nat} {h : HP} {x1 : Int} (hR : Rel n h) : Agree n h i_C_game i_M_game [vr 0, vi x1, vr 9999] [vr 103, vi x1, vr 9999] := by
  have W := hR.2.2.2.2.2.1.2.1
  have w := W.1
  have cd := cdim (rfl : rmC h 10 = rmC h 10)
  by_cases c : 1 ≤ x1 ∧ x1 ≤ 3
  · by_cases z : rmC h 10 0 1 = 0
    · refine ag_act0 (v := vi (-1)) (st := 6) hR (fun Q k => ?_) (fun g Q e gk k => ?_)
      · exact g_C_game_0 (g_C_gameTrouble_0 (fun _ _ => g_C_game_5 (fun q => absurd q (by decide)) (fun _ => k)) (fun _ q => by omega) (fun q => absurd c q))
      · have dd := mdim e
        exact g_M_game_0 (g_M_wrongGame_0 (fun _ q => by omega) (fun _ _ => g_M_game_5 (fun q => absurd q (by decide)) (fun q => absurd q (by decide)) (fun _ => k)) (fun q => absurd c q))
    · obtain ⟨o, f, F⟩ := FinG_ex W 1
      refine ag_scr (v := vi o) (st := 0) hR (fun Q k => ?_) (fun g Q e gk k => ?_)
      · refine g_C_game_0 (g_C_gameTrouble_0 (fun _ q => by omega) (fun _ _ => g_C_game_5 (fun _ => ?_) (fun q => absurd rfl q)) (fun q => absurd c q))
        refine c_En_play isF_10 rfl W (fun h' o' f' fr F' ob e1 e2 => g_C_game_27 ?_)
        rw [e1, ← (FinG_un F F').1]
        exact k h' (fun k hk => fr k (by omega) (by omega))
      · have dd := mdim e
        obtain ⟨x, ex⟩ : ∃ x : Nat, x1 = x := ⟨x1.toNat, by omega⟩
        subst ex
        refine g_M_game_0 (g_M_wrongGame_0 (fun _ _ => g_M_game_5 (fun _ => by omega) (fun _ => ?_) (fun q => absurd (by decide) q)) (fun _ q => by omega) (fun q => absurd c q))
        refine c_M_gameOf (by omega) e W (fun g' o' f' fr f3 F' e1 => g_M_game_26 ?_)
        rw [← (FinG_un F F').1]
        exact k g' ⟨fun k h1 h2 => fr k (by omega) (by omega) h2, fun i hi => f3 i (by omega)⟩
  · refine ag_act0 (v := vi (-1)) (st := 1) hR (fun Q k => ?_) (fun g Q e gk k => ?_)
    · exact g_C_game_0 (g_C_gameTrouble_0 (fun q => absurd q c) (fun q => absurd q c) (fun _ => g_C_game_5 (fun q => absurd q (by decide)) (fun _ => k)))
    · exact g_M_game_0 (g_M_wrongGame_0 (fun q => absurd q c) (fun q => absurd q c) (fun _ => g_M_game_5 (fun q => absurd q (by decide)) (fun q => absurd q (by decide)) (fun _ => k)))
theorem A_first {n : Nat} {h : HP} {x1 : Int} (hR : Rel n h) : Agree n h i_C_first i_M_first [vr 0, vi x1, vr 9999] [vr 103, vi x1, vr 9999] := by
  have W := hR.2.2.2.2.2.1.2.1
  have w := W.1
  have cd := cdim (rfl : rmC h 10 = rmC h 10)
  by_cases c : 1 ≤ x1 ∧ x1 ≤ 3
  · by_cases z : rmC h 10 0 1 = 0
    · refine ag_act0 (v := vi (-1)) (st := 6) hR (fun Q k => ?_) (fun g Q e gk k => ?_)
      · exact g_C_first_0 (g_C_gameTrouble_0 (fun _ _ => g_C_first_5 (fun q => absurd q (by decide)) (fun _ => k)) (fun _ q => by omega) (fun q => absurd c q))
      · have dd := mdim e
        exact g_M_first_0 (g_M_wrongGame_0 (fun _ q => by omega) (fun _ _ => g_M_first_5 (fun q => absurd q (by decide)) (fun q => absurd q (by decide)) (fun _ => k)) (fun q => absurd c q))
    · obtain ⟨o, f, F⟩ := FinG_ex W 1
      refine ag_scr (v := vi (f : Int)) (st := 0) hR (fun Q k => ?_) (fun g Q e gk k => ?_)
      · refine g_C_first_0 (g_C_gameTrouble_0 (fun _ q => by omega) (fun _ _ => g_C_first_5 (fun _ => ?_) (fun q => absurd rfl q)) (fun q => absurd c q))
        refine c_En_play isF_10 rfl W (fun h' o' f' fr F' ob e1 e2 => g_C_first_27 ?_)
        rw [e2, ← (FinG_un F F').2]
        exact k h' (fun k hk => fr k (by omega) (by omega))
      · have dd := mdim e
        obtain ⟨x, ex⟩ : ∃ x : Nat, x1 = x := ⟨x1.toNat, by omega⟩
        subst ex
        refine g_M_first_0 (g_M_wrongGame_0 (fun _ _ => g_M_first_5 (fun _ => by omega) (fun _ => ?_) (fun q => absurd (by decide) q)) (fun _ q => by omega) (fun q => absurd c q))
        refine c_M_gameOf (by omega) e W (fun g' o' f' fr f3 F' e1 => g_M_first_23 ?_)
        rw [e1, ← (FinG_un F F').2]
        exact k g' ⟨fun k h1 h2 => fr k (by omega) (by omega) h2, fun i hi => f3 i (by omega)⟩
  · refine ag_act0 (v := vi (-1)) (st := 1) hR (fun Q k => ?_) (fun g Q e gk k => ?_)
    · exact g_C_first_0 (g_C_gameTrouble_0 (fun q => absurd q c) (fun q => absurd q c) (fun _ => g_C_first_5 (fun q => absurd q (by decide)) (fun _ => k)))
    · exact g_M_first_0 (g_M_wrongGame_0 (fun q => absurd q c) (fun q => absurd q c) (fun _ => g_M_first_5 (fun q => absurd q (by decide)) (fun q => absurd q (by decide)) (fun _ => k)))
