/-- the line of a row behind LAND 0's move -/
def ctM (R : HP) (m : Int) (s : Nat) : Int := if (s : Int) = m then R 1 s + 1 else R 1 s
def bAn (R : HP) (m : Int) (i : Nat) (v : Int) : Prop := 0 ≤ v ∧ (∀ s : Nat, s < i → 0 < ctM R m s → gnG R (ctM R m s - 1) s ≤ v) ∧ (v = 0 ∨ ∃ s : Nat, s < i ∧ 0 < ctM R m s ∧ v = gnG R (ctM R m s - 1) s)
theorem c_En_bestAnswer {Q : PQ} {h R : HP} {m : Int} {f1 : Nat} (h_f1 : isF f1) (eR : rmC h f1 = R) (W : WR R) (G : GN R h) (hm : ∀ s : Nat, (s : Int) = m → (s : Int) < R 0 1 → R 1 s < R 0 0)
    (kk : ∀ v, bAn R m (R 0 1).toNat v → v ≤ 1980 → Q (some (vi v)) h) : Wp true i_En_bestAnswer 0 [vr 97, vr f1, vi m, vr 9999, vr 9999, vr 9999] [] h Q := by
  have w := W.1
  have dd := cdim eR
  have key : ∀ (d i : Nat) (v : Int) (j5 : AV), (i : Int) + d = R 0 1 → bAn R m i v → v ≤ 1980 → Wp true i_En_bestAnswer 5 [vr 97, vr f1, vi m, vi v, vi (i : Int), j5] [] h Q := by
    intro d
    induction d with
    | zero =>
      intro i v j5 e I vb
      rw [show i = (R 0 1).toNat by omega] at I
      have fin := kk v I vb
      exact g_En_bestAnswer_5 h_f1 (fun _ => fin) (fun q => by omega) (fun q => by omega) (fun q => by omega) (fun q => by omega) (fun q => by omega)
    | succ d ih =>
      intro i v j5 e I vb
      have en : ((i : Int)).toNat = i := Int.toNat_natCast _
      have wi := W.2.1 i (by omega)
      have e1 : h (f1 + 2) i = R 1 i := (cR_1 (h := h) (f := f1) (r := i) (by omega)).symm.trans (by rw [eR])
      have cr : 0 ≤ ctM R m i ∧ ctM R m i ≤ R 0 0 := by
        unfold ctM
        by_cases z : (i : Int) = m
        · have := hm i z (by omega); rw [if_pos z]; omega
        · rw [if_neg z]; omega
      have b39 : ∀ j5, Wp true i_En_bestAnswer 39 [vr 97, vr f1, vi m, vi v, vi (i : Int), j5] [vi (ctM R m i)] h Q := by
        intro j5
        refine g_En_bestAnswer_39 h_f1 (fun _ => by omega) (fun z => ?_) (fun _ => by omega) (fun _ => by omega) (fun _ => by omega) (fun _ => by omega) (fun _ => by omega) (fun z => ?_)
        · refine ih (i + 1) v _ (by omega) ⟨I.1, fun s hs' hp => ?_, ?_⟩ vb
          · by_cases y : s = i
            · subst y; omega
            · exact I.2.1 s (by omega) hp
          · rcases I.2.2 with q | ⟨s, a, b⟩
            · exact Or.inl q
            · exact Or.inr ⟨s, by omega, b⟩
        · obtain ⟨c, ec⟩ : ∃ c : Nat, ctM R m i - 1 = c := ⟨(ctM R m i - 1).toNat, by omega⟩
          have g := G c i ⟨by omega, by omega⟩
          have gr := gnG_rg W (c : Int) i
          rw [show ((i : Int) * 9 + (ctM R m i - 1)).toNat = 9 * i + c by omega, g]
          refine ih (i + 1) _ _ (by omega) ⟨by have := I.1; omega, fun s hs' hp => ?_, ?_⟩ (by omega)
          · by_cases y : s = i
            · subst y; rw [ec]; omega
            · have := I.2.1 s (by omega) hp; omega
          · by_cases y : v ≤ gnG R (c : Int) i
            · exact Or.inr ⟨i, by omega, by omega, by rw [ec]; omega⟩
            · rcases I.2.2 with q | ⟨s, a, b, q⟩
              · exact Or.inl (by omega)
              · exact Or.inr ⟨s, by omega, b, by omega⟩
      refine g_En_bestAnswer_5 h_f1 (fun q => by omega) (fun _ _ => by omega) (fun _ z => ?_) (fun _ _ => by omega) (fun _ _ => by rw [en, e1]; omega) (fun _ z => ?_)
      · have b := b39 j5
        rw [show ctM R m i = R 1 i from if_neg z] at b
        rw [en, e1]; exact b
      · have b := b39 j5
        rw [show ctM R m i = R 1 i + 1 from if_pos z] at b
        rw [en, e1]; exact b
  exact g_En_bestAnswer_0 h_f1 (key (R 0 1).toNat 0 0 _ (by omega) ⟨by omega, fun s hs' => by omega, Or.inl rfl⟩ (by omega))
