section
variable {Q : PQ} {h H X R T : HP} {B : Bt} {n s m c : Nat} {N : NT} {st : List Nat}
theorem c_Tr_readEnd (F : FX H X) (S : St B n s X h) (C : TC X T m c st) (W : WP T m c st R) (k : hd (match st with
    | [] => fl B n s 2
    | o :: st' => bd (sEnd B n (nx B n s)) fun s' => (.inr (s', tEnd T m o, m + 1, c, st') : PR TSt)) (fun fk fp => ∀ g, FaC H g fk fp → Q (some (vi 0)) g) (fun a => ∀ Y g, FX H Y → St B n a.1 Y g → TC Y a.2.1 a.2.2.1 a.2.2.2.1 a.2.2.2.2 → Q (some (vi 1)) g)) : Wp true i_Tr_readEnd 0 [vr 9, vr 5, vr 32, vr 9999, vr 9999] [] h Q := by
  have h91 : h 9 1 = X 9 1 := by rw [S.1.1 9 (by decide)]
  have h322 : h 32 2 = m := by rw [S.1.1 32 (by decide)]; exact C.2.1
  have ch := C.2.2.2.1
  have a0 := W.1
  cases st with
  | nil =>
    have ch : X 9 1 = -1 := ch
    exact g_Tr_readEnd_0 isT_32 (fun z => by omega) (fun _ => c2_fail F S (hd_m k (fun fk fp q g f => g_Tr_readEnd_12 isT_32 (Or.inl rfl) (q g f)) (fun _ q => q)))
  | cons o st =>
    rw [List.length_cons] at a0
    have ch1 : X 9 1 = o := ch.1
    have om := W.2.1.1.1
    have c3 := C.2.2.1
    rw [List.length_cons] at c3
    refine g_Tr_readEnd_0 isT_32 (fun _ => c_Ta_add (m := m) h322 (by omega) ?_) (fun z => by omega)
    rw [h91, ch1, h322]
    obtain ⟨f1, f2, f3, f4, f33, f34, f35, f36, f37⟩ := addC_f (X := h) (m := m) (w := 20) (a := 0) (b := 0) (d := 0)
    have p37 : addC h m 20 0 0 0 (32 + 5) (o : Int).toNat = X 37 o := by
      rw [Int.toNat_natCast]
      show addC h m 20 0 0 0 37 o = _
      rw [f4 37 o (by decide) (by decide) (by omega), S.1.1 37 (by decide)]
    have e90 : (hs (hs (hs (addC h m 20 0 0 0) 9 1 (X 37 o)) 37 o (m : Int)) 37 m (o : Int)) 9 0 - 1 = st.length := by
      rw [hs_ne (by decide), hs_ne (by decide), hs_o (by decide), f1 9 (by decide) (by decide), S.1.1 9 (by decide), c3]; omega
    refine g_Tr_readEnd_33 isT_32 (by omega) (by omega) ?_ ?_
    · rw [p37, Int.toNat_natCast, Int.toNat_natCast]
      show -2147483648 ≤ (hs (hs (hs (addC h m 20 0 0 0) 9 1 (X 37 o)) 37 o (m : Int)) 37 m (o : Int)) 9 0 - 1 ∧ (hs (hs (hs (addC h m 20 0 0 0) 9 1 (X 37 o)) 37 o (m : Int)) 37 m (o : Int)) 9 0 - 1 ≤ 2147483647
      rw [e90]; omega
    · rw [p37, Int.toNat_natCast, Int.toNat_natCast]
      show Wp true i_To_next 0 [vr 5] [] (hs (hs (hs (hs (addC h m 20 0 0 0) 9 1 (X 37 o)) 37 o (m : Int)) 37 m (o : Int)) 9 0 ((hs (hs (hs (addC h m 20 0 0 0) 9 1 (X 37 o)) 37 o (m : Int)) 37 m (o : Int)) 9 0 - 1)) _
      rw [e90]
      have S2 := St_w (k := 9) (i := 0) (v := (st.length : Int)) (St_w (k := 37) (i := m) (v := (o : Int)) (St_w (k := 37) (i := o) (v := (m : Int)) (St_w (k := 9) (i := 1) (v := X 37 o) (St_add (m := m) (x1 := 20) (x2 := 0) (x3 := 0) (x4 := 0) S) (by decide)) (by decide)) (by decide)) (by decide)
      have F2 := FX_w (k := 9) (i := 0) (v := (st.length : Int)) (FX_w (k := 37) (i := m) (v := (o : Int)) (FX_w (k := 37) (i := o) (v := (m : Int)) (FX_w (k := 9) (i := 1) (v := X 37 o) (FX_add (m := m) (x1 := 20) (x2 := 0) (x3 := 0) (x4 := 0) F) sc9) (sc32 (j := 5) (by decide))) (sc32 (j := 5) (by decide))) sc9
      refine c2_next S2 (fun g3 S3 => g_Tr_readEnd_73 isT_32 (c2_end F2 S3 (hd_m (hd_bd.mp k) (fun fk fp q g f => g_Tr_readEnd_77 isT_32 (Or.inl rfl) (q g f)) (fun s' q g4 S4 => g_Tr_readEnd_77 isT_32 (Or.inr rfl) (q _ g4 F2 S4 (TC_end C W))))))
theorem c_Tr_readStep (F : FX H X) (C0 : RC H R N) (WR' : WR R) (S : St B n s X h) (C : TC X T m c st) (W : WP T m c st R) (k : hd (sStep B n s R N T m c st) (fun fk fp => ∀ g, FaC H g fk fp → Q (some (vi 0)) g) (fun a => ∀ Y g, FX H Y → St B n a.1 Y g → TC Y a.2.1 a.2.2.1 a.2.2.2.1 a.2.2.2.2 → Q (some (vi 1)) g)) : Wp true i_Tr_readStep 0 [vr 9, vr 5, vr 10, vr 32, vr 9999] [] h Q := by
  have r := WR'.1
  have e6 : h 5 6 = tW B n s := S.2.2.2.2.2.2.1
  have h1 : h 32 1 = c := by rw [S.1.1 32 (by decide)]; exact C.1
  have h90 : h 9 0 = st.length := by rw [S.1.1 9 (by decide)]; exact C.2.2.1
  have a0 := W.1
  unfold sStep at k
  by_cases w20 : tW B n s = 20
  · rw [if_pos w20] at k
    exact g_Tr_readStep_0 isF_10 isT_32 (fun z => absurd (e6.trans w20) z) (fun _ => c_Tr_readEnd F S C W (hd_m k (fun fk fp q g f => g_Tr_readStep_19 isF_10 isT_32 (Or.inl rfl) (q g f)) (fun a q Y g F' S' C' => g_Tr_readStep_19 isF_10 isT_32 (Or.inr rfl) (q Y g F' S' C'))))
  · rw [if_neg w20] at k
    refine g_Tr_readStep_0 isF_10 isT_32 (fun _ => ?_) (fun z => absurd (e6.symm.trans z) w20)
    rw [e6]
    by_cases bg : bgS (tW B n s)
    · rw [if_neg (fun z => z bg)] at k
      have go : Wp true i_Tr_readStep 25 [vr 9, vr 5, vr 10, vr 32, vi (tW B n s)] [vi 1] h Q := by
        by_cases c30 : 30 ≤ c
        · rw [if_pos c30] at k
          exact g_Tr_readStep_25 isF_10 isT_32 (fun _ z => by omega) (fun _ z => by omega) (fun _ z => by omega) (fun _ z => by omega) (fun _ _ => c2_fail F S (hd_m k (fun fk fp q g f => g_Tr_readStep_49 isF_10 isT_32 (Or.inl rfl) (q g f)) (fun _ q => q))) (fun z => absurd z (by decide))
        · rw [if_neg c30] at k
          have S1 := St_w (k := 32) (i := 1) (v := (c : Int) + 1) S (by decide)
          have F1 : FX H (hs X 32 1 ((c : Int) + 1)) := FX_w F (sc32 (j := 0) (by decide))
          have em : (hs X 32 1 ((c : Int) + 1)) 32 2 = m := by rw [hs_o (by decide)]; exact C.2.1
          have hm : m < 60 := by omega
          -- behind the WORD
          have go2 : hd (bd (sOrd B n (tW B n s) (nx B n s) R N) fun a => bd (sEnd B n a.1) fun s' => (.inr (s', tAdd T m a.2, m + 1, c + 1, if tW B n s = 15 ∨ tW B n s = 19 then m :: st else st) : PR TSt)) (fun fk fp => ∀ g, FaC H g fk fp → Q (some (vi 0)) g) (fun a => ∀ Y g, FX H Y → St B n a.1 Y g → TC Y a.2.1 a.2.2.1 a.2.2.2.1 a.2.2.2.2 → Q (some (vi 1)) g) →
              Wp true i_To_next 0 [vr 5] [] (hs h 32 1 ((h 32 1) + 1)) (fun r h' => Wp true i_Tr_readStep 93 [vr 9, vr 5, vr 10, vr 32, vi (tW B n s)] (r.toList ++ []) h' Q) := by
            intro k
            rw [h1]
            refine c2_next S1 (fun g1 S1 => ?_)
            have hn : nx B n s ≤ n := S1.2.2.1
            have k := hd_and (hd_and (hd_bd.mp k) (sOrd_b (B := B) (n := n) (s := nx B n s) (R := R) (N := N) hn WR' bg)) (sOrd_n (B := B) (n := n) (s := nx B n s) (w := tW B n s) (R := R) (N := N))
            have k := hd_m k (F' := fun fk fp => ∀ g, FaC H g fk fp → Q (some (vi 0)) g) (fun _ _ q => q.1.1) (fun _ q => q)
            have clo : ¬ (tW B n s = 15 ∨ tW B n s = 19) → ∀ (a : Nat × EN) (g : HP), ((hd (bd (sEnd B n a.1) fun s' => (.inr (s', tAdd T m a.2, m + 1, c + 1, if tW B n s = 15 ∨ tW B n s = 19 then m :: st else st) : PR TSt)) (fun fk fp => ∀ g, FaC H g fk fp → Q (some (vi 0)) g) (fun a => ∀ Y g, FX H Y → St B n a.1 Y g → TC Y a.2.1 a.2.2.1 a.2.2.2.1 a.2.2.2.2 → Q (some (vi 1)) g) ∧ (nx B n s ≤ a.1 ∧ a.1 ≤ n ∧ okEn R a.2 ∧ (isO a.2.1 ↔ (tW B n s = 15 ∨ tW B n s = 19)))) ∧ nE a.2) → St B n a.1 (addX (hs X 32 1 ((c : Int) + 1)) m a.2) g →
                hd (sEnd B n a.1) (fun fk fp => ∀ g, FaC H g fk fp → Q (some (vi 0)) g) (fun s' => ∀ g', St B n s' (addX (hs X 32 1 ((c : Int) + 1)) m a.2) g' → Q (some (vi 1)) g') := by
              intro no a g q Sg
              refine hd_m (hd_bd.mp q.1.1) (fun _ _ q => q) (fun s' q' g' S' => ?_)
              rw [if_neg no] at q'
              exact q' _ g' (FX_add F1) S' (TC_add C W q.1.2.2.2.1 q.2 (fun y => no (q.1.2.2.2.2.mp y)))
            have opn : (tW B n s = 15 ∨ tW B n s = 19) → ∀ (a : Nat × EN) (g : HP), ((hd (bd (sEnd B n a.1) fun s' => (.inr (s', tAdd T m a.2, m + 1, c + 1, if tW B n s = 15 ∨ tW B n s = 19 then m :: st else st) : PR TSt)) (fun fk fp => ∀ g, FaC H g fk fp → Q (some (vi 0)) g) (fun a => ∀ Y g, FX H Y → St B n a.1 Y g → TC Y a.2.1 a.2.2.1 a.2.2.2.1 a.2.2.2.2 → Q (some (vi 1)) g) ∧ (nx B n s ≤ a.1 ∧ a.1 ≤ n ∧ okEn R a.2 ∧ (isO a.2.1 ↔ (tW B n s = 15 ∨ tW B n s = 19)))) ∧ nE a.2) → St B n a.1 (addX (hs X 32 1 ((c : Int) + 1)) m a.2) g → ∀ (Q' : PQ),
                (∀ g', St B n a.1 (hs (hs (hs (addX (hs X 32 1 ((c : Int) + 1)) m a.2) 37 m (X 9 1)) 9 1 (m : Int)) 9 0 ((st.length : Int) + 1)) g' → hd (sEnd B n a.1) (fun fk fp => ∀ g, FaC H g fk fp → Q (some (vi 0)) g) (fun s' => ∀ g'', St B n s' (hs (hs (hs (addX (hs X 32 1 ((c : Int) + 1)) m a.2) 37 m (X 9 1)) 9 1 (m : Int)) 9 0 ((st.length : Int) + 1)) g'' → Q (some (vi 1)) g'') → Q' (some (vi 1)) g') → Wp true i_Tr_open 0 [vr 9, vr 32, vr 9999] [] g Q' := by
              intro op a g q Sg Q' kk
              obtain ⟨f1, f2, f3, f4, -, -, -, -, f37⟩ := addC_f (X := hs X 32 1 ((c : Int) + 1)) (m := m) (w := cw a.2.1) (a := a.2.2.1) (b := if a.2.1 = 1519 ∨ a.2.1 = 1520 then a.2.2.2.2.2 else a.2.2.2.1) (d := if a.2.1 = 1519 ∨ a.2.1 = 1520 then a.2.2.2.1 else a.2.2.2.2.1)
              have g2 : g 32 2 = (m : Int) + 1 := by rw [Sg.1.1 32 (by decide)]; exact f3
              have g9 : g 9 = X 9 := by
                rw [Sg.1.1 9 (by decide)]
                show addC _ _ _ _ _ _ 9 = _
                rw [f1 9 (by decide) (by decide), hs_ne (by decide)]
              have e0 : (hs g 37 m (X 9 1)) 9 0 = st.length := by rw [hs_ne (by decide), g9]; exact C.2.2.1
              have em' : (g 32 2 - 1).toNat = m := by omega
              refine g_Tr_open_0 isT_32 (by omega) (by omega) ?_ ?_
              · rw [em', g9]
                show -2147483648 ≤ (hs g 37 m (X 9 1)) 9 0 + 1 ∧ (hs g 37 m (X 9 1)) 9 0 + 1 ≤ 2147483647
                rw [e0]; omega
              · rw [em', g9, show g 32 2 - 1 = (m : Int) by omega]
                show Q' (some (vi 1)) (hs (hs (hs g 37 m (X 9 1)) 9 1 (m : Int)) 9 0 ((hs g 37 m (X 9 1)) 9 0 + 1))
                rw [e0]
                refine kk _ (St_w (St_w (St_w Sg (by decide)) (by decide)) (by decide)) ?_
                refine hd_m (hd_bd.mp q.1.1) (fun _ _ q => q) (fun s' q' g' S' => ?_)
                rw [if_pos op] at q'
                exact q' _ g' (FX_w (FX_w (FX_w (FX_add F1) (sc32 (j := 5) (by decide))) sc9) sc9) S' (TC_open C W q.1.2.2.2.1 q.2)
            unfold sOrd at k
            have F2 : ∀ a : EN, FX H (addX (hs X 32 1 ((c : Int) + 1)) m a) := fun a => FX_add F1
            have F3 : ∀ a : EN, FX H (hs (hs (hs (addX (hs X 32 1 ((c : Int) + 1)) m a) 37 m (X 9 1)) 9 1 (m : Int)) 9 0 ((st.length : Int) + 1)) := fun a => FX_w (FX_w (FX_w (FX_add F1) (sc32 (j := 5) (by decide))) sc9) sc9
            rcases bg with w | w | w | w | w | w | w | w
            · rw [w] at k clo ⊢
              rw [if_pos rfl] at k
              refine g_Tr_readStep_93 isF_10 isT_32 (fun _ => ?_) (fun z => absurd z (by decide)) (fun z => absurd z (by decide)) (fun z => absurd z (by decide)) (fun z => absurd z (by decide)) (fun z => absurd z (by decide)) (fun z => absurd z (by decide)) (fun z => absurd z (by decide)) (fun z => absurd z (by decide)) (fun z => absurd z (by decide)) (fun z => absurd z (by decide)) (fun z => absurd z (by decide)) (fun z => absurd rfl z)
              refine c_Tr_readYield F1 C0 (by omega) S1 em hm (hd_m (hd_bd.mp k) (fun fk fp q g f => g_Tr_readStep_158 isF_10 isT_32 (fun _ => q g f) (fun z => absurd rfl z)) (fun a q => hd_m (hd_bd.mp q) (fun fk fp q g f => g_Tr_readStep_158 isF_10 isT_32 (fun _ => q g f) (fun z => absurd rfl z)) (fun b q => hd_m (hd_bd.mp q) (fun fk fp q g f => g_Tr_readStep_158 isF_10 isT_32 (fun _ => q g f) (fun z => absurd rfl z)) (fun d q g2 S2 => ?_))))
              refine g_Tr_readStep_158 isF_10 isT_32 (fun z => absurd z (by decide)) (fun _ => c2_end (F2 (9, a.1, b.1, d.1, 0)) S2 (hd_m (clo (by decide) (d.2, 9, a.1, b.1, d.1, 0) g2 q S2) (fun fk fp q g f => g_Tr_readStep_165 isF_10 isT_32 (fun _ => q g f) (fun z => absurd rfl z)) (fun s' q g3 S3 => g_Tr_readStep_165 isF_10 isT_32 (fun z => absurd z (by decide)) (fun _ => q g3 S3))))
            · rw [w] at k clo ⊢
              rw [if_neg (by decide), if_neg (by decide), if_neg (by decide), if_neg (by decide), if_neg (by decide), if_neg (by decide)] at k
              refine g_Tr_readStep_93 isF_10 isT_32 (fun z => absurd z (by decide)) (fun z => absurd z (by decide)) (fun z => absurd z (by decide)) (fun z => absurd z (by decide)) (fun z => absurd z (by decide)) (fun z => absurd z (by decide)) (fun z => absurd z (by decide)) (fun _ => ?_) (fun z => absurd z (by decide)) (fun z => absurd z (by decide)) (fun z => absurd z (by decide)) (fun z => absurd z (by decide)) (fun _ _ _ _ _ _ z => absurd rfl z)
              refine c_Ta_add (m := m) (by rw [S1.1.1 32 (by decide)]; exact em) hm (g_Tr_readStep_324 isF_10 isT_32 ?_)
              have S2 : St B n (nx B n s) (addX (hs X 32 1 ((c : Int) + 1)) m (10, 0, 0, 0, 0)) (addC g1 m 10 0 0 0) := St_add S1
              exact c2_end (F2 (10, 0, 0, 0, 0)) S2 (hd_m (clo (by decide) (nx B n s, 10, 0, 0, 0, 0) _ k S2) (fun fk fp q g f => g_Tr_readStep_328 isF_10 isT_32 (Or.inl rfl) (q g f)) (fun s' q g3 S3 => g_Tr_readStep_328 isF_10 isT_32 (Or.inr rfl) (q g3 S3)))
            · rw [w] at k clo ⊢
              rw [if_neg (by decide), if_pos rfl] at k
              have C1 := RC_g C0 F1 S1.1
              refine g_Tr_readStep_93 isF_10 isT_32 (fun z => absurd z (by decide)) (fun _ => by rw [C1.2.1]; omega) (fun _ => ?_) (fun z => absurd z (by decide)) (fun z => absurd z (by decide)) (fun z => absurd z (by decide)) (fun z => absurd z (by decide)) (fun z => absurd z (by decide)) (fun z => absurd z (by decide)) (fun z => absurd z (by decide)) (fun z => absurd z (by decide)) (fun z => absurd z (by decide)) (fun _ z => absurd rfl z)
              rw [C1.2.1]
              refine c_Tr_readOne F1 S1 (by decide) em hm (hd_m (hd_bd.mp k) (fun fk fp q g f => g_Tr_readStep_188 isF_10 isT_32 (fun _ => q g f) (fun z => absurd rfl z)) (fun a q g2 S2 => ?_))
              refine g_Tr_readStep_188 isF_10 isT_32 (fun z => absurd z (by decide)) (fun _ => c2_end (F2 (11, a.1, 0, 0, 0)) S2 (hd_m (clo (by decide) (a.2, 11, a.1, 0, 0, 0) g2 q S2) (fun fk fp q g f => g_Tr_readStep_195 isF_10 isT_32 (fun _ => q g f) (fun z => absurd rfl z)) (fun s' q g3 S3 => g_Tr_readStep_195 isF_10 isT_32 (fun z => absurd z (by decide)) (fun _ => q g3 S3))))
            · rw [w] at k clo ⊢
              rw [if_neg (by decide), if_neg (by decide), if_pos rfl] at k
              refine g_Tr_readStep_93 isF_10 isT_32 (fun z => absurd z (by decide)) (fun z => absurd z (by decide)) (fun z => absurd z (by decide)) (fun _ => ?_) (fun z => absurd z (by decide)) (fun z => absurd z (by decide)) (fun z => absurd z (by decide)) (fun z => absurd z (by decide)) (fun z => absurd z (by decide)) (fun z => absurd z (by decide)) (fun z => absurd z (by decide)) (fun z => absurd z (by decide)) (fun _ _ z => absurd rfl z)
              have ff : ∀ (fk : Int) (fp : Nat), (∀ g, FaC H g fk fp → Q (some (vi 0)) g) → ∀ g, FaC H g fk fp → Wp true i_Tr_readStep 210 [vr 9, vr 5, vr 10, vr 32, vi 12] [vi 0] g Q := fun fk fp q g f => g_Tr_readStep_210 isF_10 isT_32 (fun _ => q g f) (fun z => absurd rfl z)
              refine c_Tr_readMove F1 C0 WR' S1 em hm (hd_m (hd_bd.mp k) ff (fun t q => hd_m (hd_bd.mp q) ff (fun s2 q => hd_m (hd_bd.mp q) ff (fun b q => hd_m (hd_bd.mp q) ff (fun d q g2 S2 => ?_)))))
              refine g_Tr_readStep_210 isF_10 isT_32 (fun z => absurd z (by decide)) (fun _ => c2_end (F2 (12, t.1, b.1, d.1, 0)) S2 (hd_m (clo (by decide) (d.2, 12, t.1, b.1, d.1, 0) g2 q S2) (fun fk fp q g f => g_Tr_readStep_217 isF_10 isT_32 (fun _ => q g f) (fun z => absurd rfl z)) (fun s' q g3 S3 => g_Tr_readStep_217 isF_10 isT_32 (fun z => absurd z (by decide)) (fun _ => q g3 S3))))
            · rw [w] at k clo ⊢
              rw [if_neg (by decide), if_neg (by decide), if_neg (by decide), if_pos rfl] at k
              refine g_Tr_readStep_93 isF_10 isT_32 (fun z => absurd z (by decide)) (fun z => absurd z (by decide)) (fun z => absurd z (by decide)) (fun z => absurd z (by decide)) (fun _ => ?_) (fun z => absurd z (by decide)) (fun z => absurd z (by decide)) (fun z => absurd z (by decide)) (fun z => absurd z (by decide)) (fun z => absurd z (by decide)) (fun z => absurd z (by decide)) (fun z => absurd z (by decide)) (fun _ _ _ z => absurd rfl z)
              refine c_Tr_readOne F1 S1 (by decide) em hm (hd_m (hd_bd.mp k) (fun fk fp q g f => g_Tr_readStep_235 isF_10 isT_32 (fun _ => q g f) (fun z => absurd rfl z)) (fun a q g2 S2 => ?_))
              refine g_Tr_readStep_235 isF_10 isT_32 (fun z => absurd z (by decide)) (fun _ => c2_end (F2 (13, a.1, 0, 0, 0)) S2 (hd_m (clo (by decide) (a.2, 13, a.1, 0, 0, 0) g2 q S2) (fun fk fp q g f => g_Tr_readStep_242 isF_10 isT_32 (fun _ => q g f) (fun z => absurd rfl z)) (fun s' q g3 S3 => g_Tr_readStep_242 isF_10 isT_32 (fun z => absurd z (by decide)) (fun _ => q g3 S3))))
            · rw [w] at k opn ⊢
              rw [if_neg (by decide), if_neg (by decide), if_neg (by decide), if_neg (by decide), if_pos rfl] at k
              refine g_Tr_readStep_93 isF_10 isT_32 (fun z => absurd z (by decide)) (fun z => absurd z (by decide)) (fun z => absurd z (by decide)) (fun z => absurd z (by decide)) (fun z => absurd z (by decide)) (fun _ => ?_) (fun z => absurd z (by decide)) (fun z => absurd z (by decide)) (fun z => absurd z (by decide)) (fun z => absurd z (by decide)) (fun z => absurd z (by decide)) (fun z => absurd z (by decide)) (fun _ _ _ _ z => absurd rfl z)
              refine c_Tr_readWhen F1 C0 WR' S1 em hm (hd_m k (fun fk fp q g f => g_Tr_readStep_257 isF_10 isT_32 (fun _ => q g f) (fun z => absurd rfl z)) (fun a q g2 S2 => ?_))
              refine g_Tr_readStep_257 isF_10 isT_32 (fun z => absurd z (by decide)) (fun _ => opn (by decide) a g2 q S2 _ (fun g3 S3 kk => ?_))
              exact g_Tr_readStep_265 isF_10 isT_32 (fun z => absurd z (by decide)) (fun _ => c2_end (F3 a.2) S3 (hd_m kk (fun fk fp q g f => g_Tr_readStep_272 isF_10 isT_32 (fun _ => q g f) (fun z => absurd rfl z)) (fun s' q g4 S4 => g_Tr_readStep_272 isF_10 isT_32 (fun z => absurd z (by decide)) (fun _ => q g4 S4))))
            · rw [w] at k opn ⊢
              rw [if_neg (by decide), if_neg (by decide), if_neg (by decide), if_neg (by decide), if_neg (by decide), if_pos rfl] at k
              refine g_Tr_readStep_93 isF_10 isT_32 (fun z => absurd z (by decide)) (fun z => absurd z (by decide)) (fun z => absurd z (by decide)) (fun z => absurd z (by decide)) (fun z => absurd z (by decide)) (fun z => absurd z (by decide)) (fun _ => ?_) (fun z => absurd z (by decide)) (fun z => absurd z (by decide)) (fun z => absurd z (by decide)) (fun z => absurd z (by decide)) (fun z => absurd z (by decide)) (fun _ _ _ _ _ z => absurd rfl z)
              refine c_Tr_readOne F1 S1 (by decide) em hm (hd_m (hd_bd.mp k) (fun fk fp q g f => g_Tr_readStep_291 isF_10 isT_32 (fun _ => q g f) (fun z => absurd rfl z)) (fun a q g2 S2 => ?_))
              refine g_Tr_readStep_291 isF_10 isT_32 (fun z => absurd z (by decide)) (fun _ => opn (by decide) (a.2, 16, a.1, 0, 0, 0) g2 q S2 _ (fun g3 S3 kk => ?_))
              exact g_Tr_readStep_299 isF_10 isT_32 (fun z => absurd z (by decide)) (fun _ => c2_end (F3 (16, a.1, 0, 0, 0)) S3 (hd_m kk (fun fk fp q g f => g_Tr_readStep_306 isF_10 isT_32 (fun _ => q g f) (fun z => absurd rfl z)) (fun s' q g4 S4 => g_Tr_readStep_306 isF_10 isT_32 (fun z => absurd z (by decide)) (fun _ => q g4 S4))))
            · rw [w] at k clo ⊢
              rw [if_neg (by decide), if_neg (by decide), if_neg (by decide), if_neg (by decide), if_neg (by decide), if_neg (by decide)] at k
              refine g_Tr_readStep_93 isF_10 isT_32 (fun z => absurd z (by decide)) (fun z => absurd z (by decide)) (fun z => absurd z (by decide)) (fun z => absurd z (by decide)) (fun z => absurd z (by decide)) (fun z => absurd z (by decide)) (fun z => absurd z (by decide)) (fun z => absurd z (by decide)) (fun z => absurd z (by decide)) (fun z => absurd z (by decide)) (fun z => absurd z (by decide)) (fun z => absurd z (by decide)) (fun _ _ _ _ _ _ _ _ _ _ _ => ?_)
              refine c_Ta_add (m := m) (by rw [S1.1.1 32 (by decide)]; exact em) hm (g_Tr_readStep_324 isF_10 isT_32 ?_)
              have S2 : St B n (nx B n s) (addX (hs X 32 1 ((c : Int) + 1)) m (18, 0, 0, 0, 0)) (addC g1 m 21 0 0 0) := St_add S1
              exact c2_end (F2 (18, 0, 0, 0, 0)) S2 (hd_m (clo (by decide) (nx B n s, 18, 0, 0, 0, 0) _ k S2) (fun fk fp q g f => g_Tr_readStep_328 isF_10 isT_32 (Or.inl rfl) (q g f)) (fun s' q g3 S3 => g_Tr_readStep_328 isF_10 isT_32 (Or.inr rfl) (q g3 S3)))
          by_cases dp : (tW B n s = 15 ∨ tW B n s = 19) ∧ 3 ≤ st.length
          · rw [if_pos dp] at k
            have f7 : Wp true i_Tr_readStep 64 [vr 9, vr 5, vr 10, vr 32, vi (tW B n s)] [] h Q := g_Tr_readStep_64 isF_10 isT_32 (fun z => by omega) (fun z => by omega) (fun _ => c2_fail F S (hd_m k (fun fk fp q g f => g_Tr_readStep_78 isF_10 isT_32 (Or.inl rfl) (q g f)) (fun _ q => q)))
            exact g_Tr_readStep_25 isF_10 isT_32 (fun _ _ _ => f7) (fun _ _ z1 z2 => by omega) (fun _ _ z1 z2 => by omega) (fun _ _ _ _ => f7) (fun _ z => by omega) (fun z => absurd z (by decide))
          · rw [if_neg dp] at k
            have k2 := go2 k
            have f7 : (tW B n s = 15 ∨ tW B n s = 19) → Wp true i_Tr_readStep 64 [vr 9, vr 5, vr 10, vr 32, vi (tW B n s)] [] h Q := fun z => g_Tr_readStep_64 isF_10 isT_32 (fun _ => by omega) (fun _ => k2) (fun z => by omega)
            exact g_Tr_readStep_25 isF_10 isT_32 (fun _ _ z => f7 (Or.inl z)) (fun _ _ _ _ => by omega) (fun _ _ _ _ => k2) (fun _ _ _ z => f7 (Or.inr z)) (fun _ z => by omega) (fun z => absurd z (by decide))
      exact g_Tr_beginsStep_0 (fun _ => go) (fun _ _ => go) (fun _ _ _ => go) (fun _ _ _ _ => go) (fun _ _ _ _ _ => go) (fun _ _ _ _ _ _ => go) (fun _ _ _ _ _ _ _ => go) (fun z1 z2 z3 z4 z5 z6 z7 z8 => by omega) (fun _ _ _ _ _ _ _ _ => go)
    · rw [if_pos bg] at k
      have no : Wp true i_Tr_readStep 25 [vr 9, vr 5, vr 10, vr 32, vi (tW B n s)] [vi 0] h Q := g_Tr_readStep_25 isF_10 isT_32 (fun z => absurd rfl z) (fun z => absurd rfl z) (fun z => absurd rfl z) (fun z => absurd rfl z) (fun z => absurd rfl z) (fun _ => c2_fail F S (hd_m k (fun fk fp q g f => g_Tr_readStep_33 isF_10 isT_32 (Or.inl rfl) (q g f)) (fun _ q => q)))
      exact g_Tr_beginsStep_0 (fun z => by omega) (fun _ z => by omega) (fun _ _ z => by omega) (fun _ _ _ z => by omega) (fun _ _ _ _ z => by omega) (fun _ _ _ _ _ z => by omega) (fun _ _ _ _ _ _ z => by omega) (fun _ _ _ _ _ _ _ _ => no) (fun _ _ _ _ _ _ _ z => by omega)
theorem c_Tr_readAll (C0 : RC h R N) (WR' : WR R) (n3 : n ≤ 300) (S : CS B n s h) (k : hd (sTalks B n R N 301 (s, (fun _ _ => 0), 0, 0, [])) (fun fk fp => ∀ g, FaC h g fk fp → Q (some (vi 0)) g) (fun o => ∀ Y g, FX h Y → EC Y g → TC Y o.1 o.2.1 o.2.2 [] → Q (some (vi 1)) (hs g 32 0 1))) : Wp true i_Tr_readAll 0 [vr 9, vr 5, vr 10, vr 32, vr 9999] [] h Q := by
  have lp : ∀ (d p : Nat) (a : TSt) (Y g : HP), p + d = 301 → p ≤ a.1 → FX h Y → St B n a.1 Y g → TC Y a.2.1 a.2.2.1 a.2.2.2.1 a.2.2.2.2 → WP a.2.1 a.2.2.1 a.2.2.2.1 a.2.2.2.2 R →
      hd (sTalks B n R N d a) (fun fk fp => ∀ g, FaC h g fk fp → Q (some (vi 0)) g) (fun o => ∀ Y g, FX h Y → EC Y g → TC Y o.1 o.2.1 o.2.2 [] → Q (some (vi 1)) (hs g 32 0 1)) →
      Wp true i_Tr_readAll 17 [vr 9, vr 5, vr 10, vr 32, vi (p : Int)] [] g Q := by
    intro d
    induction d with
    | zero =>
      intro p a Y g hp ha FY SY
      have := SY.2.2.1
      omega
    | succ d ih =>
      rintro p ⟨s, T, m, c, st⟩ Y g hp ha FY SY CY WY kk
      have ha : p ≤ s := ha
      have SY : St B n s Y g := SY
      have CY : TC Y T m c st := CY
      have WY : WP T m c st R := WY
      have e5 : g 5 5 = tK B n s := SY.2.2.2.2.2.1
      have t0 := tK_0 (B := B) (n := n) (s := s)
      have g90 : g 9 0 = st.length := by rw [SY.1.1 9 (by decide)]; exact CY.2.2.1
      rw [sTalks] at kk
      by_cases c' : n ≤ s
      · rw [if_pos c'] at kk
        have z := t0.mpr c'
        have fin : Wp true i_Tr_readAll 50 [vr 9, vr 5, vr 10, vr 32, vi (p : Int)] [] g Q := by
          cases st with
          | nil =>
            rw [if_pos rfl] at kk
            exact g_Tr_readAll_50 isF_10 isT_32 (fun _ => kk Y g FY SY.1 CY) (fun z => absurd (by rw [g90]; decide) z)
          | cons o st =>
            rw [if_neg (fun q => by cases q)] at kk
            rw [List.length_cons] at g90
            exact g_Tr_readAll_50 isF_10 isT_32 (fun z => by omega) (fun _ => c2_fail FY SY (hd_m kk (fun fk fp q g f => g_Tr_readAll_62 isF_10 isT_32 (Or.inl rfl) (q g f)) (fun _ q => q)))
        exact g_Tr_readAll_17 isF_10 isT_32 (fun _ => fin) (fun _ _ => fin) (fun _ y => by omega)
      · rw [if_neg c'] at kk
        have nz : ¬ tK B n s = 0 := fun z => c' (t0.mp z)
        have kk := hd_and (hd_bd.mp kk) (sStep_b (B := B) (n := n) (s := s) (N := N) (by omega) WR' WY)
        refine g_Tr_readAll_17 isF_10 isT_32 (fun z => by omega) (fun _ z => by omega) (fun _ _ => ?_)
        refine c_Tr_readStep FY C0 WR' SY CY WY (hd_m kk (fun fk fp q g f => g_Tr_readAll_39 isF_10 isT_32 (fun z => absurd rfl z) (fun z => absurd rfl z) (fun _ => q.1 g f)) (fun a q Y' g' FY' SY' CY' => g_Tr_readAll_39 isF_10 isT_32 (fun _ => by omega) (fun _ => ?_) (fun z => absurd z (by decide))))
        exact ih (p + 1) a Y' g' (by omega) (by have := q.2.1.1; omega) FY' SY' CY' q.2.2 q.1
  have F0 : FX h (hs (hs (hs (hs (hs h 32 0 0) 32 1 0) 32 2 0) 9 0 0) 9 1 (-1)) := FX_w (FX_w (FX_w (FX_w (FX_w FX_r (sc32 (j := 0) (by decide))) (sc32 (j := 0) (by decide))) (sc32 (j := 0) (by decide))) sc9) sc9
  have S0 : St B n s (hs (hs (hs (hs (hs h 32 0 0) 32 1 0) 32 2 0) 9 0 0) 9 1 (-1)) (hs (hs (hs (hs (hs h 32 0 0) 32 1 0) 32 2 0) 9 0 0) 9 1 (-1)) := St_w (St_w (St_w (St_w (St_w (X := h) ⟨EC_r, S⟩ (by decide)) (by decide)) (by decide)) (by decide)) (by decide)
  refine g_Tr_readAll_0 isF_10 isT_32 (g_Ta_clear_0 isT_32 (g_Tr_readAll_4 isF_10 isT_32 ?_))
  refine lp 301 0 (s, (fun _ _ => 0), 0, 0, []) _ _ rfl (Nat.zero_le _) F0 S0 ⟨?_, ?_, ?_, ?_, fun e he => absurd he (Nat.not_lt_zero e)⟩ WP_0 k
  · rw [hs_ne (by decide), hs_ne (by decide), hs_o (by decide), hs_s]; rfl
  · rw [hs_ne (by decide), hs_ne (by decide), hs_s]; rfl
  · rw [hs_o (by decide), hs_s]; rfl
  · exact hs_s
end
