/-! ===== the text of TALKS, as numbers ===== -/
abbrev EN : Type := Int × Int × Int × Int × Int
def tAdd (T : HP) (m : Nat) (x : EN) : HP := fun k e => if e = m then (if k = 0 then x.1 else if k = 1 then x.2.1 else if k = 2 then x.2.2.1 else if k = 3 then x.2.2.2.1 else if k = 5 then x.2.2.2.2 else 0) else T k e
def tEnd (T : HP) (m o : Nat) : HP := fun k e => if e = m then (if k = 0 then 17 else if k = 4 then (o : Int) else 0) else if e = o ∧ k = 4 then (m : Int) else T k e
def sName (B : Bt) (n s : Nat) (R : HP) (N : NT) : PR (Int × Nat) := if isNm B n s then (if fnd (fun i => N i = tL B n s) (R 0 3).toNat 0 = -1 then fl B n s 3 else .inr (fnd (fun i => N i = tL B n s) (R 0 3).toNat 0, nx B n s)) else fl B n s 2
def sCmp (B : Bt) (n s : Nat) (w l : Int) : PR (Nat × EN) := if tK B n s = 3 ∧ ¬ B s = 59 then bd (sNum B n (nx B n s) 0 (if w = 16 then 99 else 999)) (fun v => .inr (v.2, 1503 + w, l, v.1, 0, B s)) else fl B n s 2
def sTest (B : Bt) (n s : Nat) (R : HP) (N : NT) : PR (Nat × EN) :=
  if 16 ≤ tW B n s ∧ tW B n s ≤ 18 then bd (sNum B n (nx B n s) 0 1) (fun l => if tW B n s = 18 then bd (sName B n l.2 R N) (fun t => .inr (t.2, 1521, l.1, t.1, 0, 0)) else sCmp B n l.2 (tW B n s) l.1) else fl B n s 2
def sOrd (B : Bt) (n : Nat) (w : Int) (s : Nat) (R : HP) (N : NT) : PR (Nat × EN) :=
  if w = 9 then bd (sNum B n s 0 1) fun a => bd (sNum B n a.2 0 (R 0 1 - 1)) fun b => bd (sNum B n b.2 1 9) fun c => .inr (c.2, 9, a.1, b.1, c.1, 0)
  else if w = 11 then bd (sNum B n s 0 (R 0 1 - 1)) fun a => .inr (a.2, 11, a.1, 0, 0, 0)
  else if w = 12 then bd (sName B n s R N) fun t => bd (sWord B n t.2 13) fun s2 => bd (sNum B n s2 0 (R 0 0 - 1)) fun b => bd (sNum B n b.2 0 (R 0 1 - 1)) fun c => .inr (c.2, 12, t.1, b.1, c.1, 0)
  else if w = 14 then bd (sNum B n s 0 1) fun a => .inr (a.2, 13, a.1, 0, 0, 0)
  else if w = 15 then sTest B n s R N
  else if w = 19 then bd (sNum B n s 1 99) fun a => .inr (a.2, 16, a.1, 0, 0, 0)
  else .inr (s, if w = 10 then 10 else 18, 0, 0, 0, 0)
abbrev TSt : Type := Nat × HP × Nat × Nat × List Nat
abbrev bgS (w : Int) : Prop := w = 9 ∨ w = 10 ∨ w = 11 ∨ w = 12 ∨ w = 14 ∨ w = 15 ∨ w = 19 ∨ w = 21
def sStep (B : Bt) (n s : Nat) (R : HP) (N : NT) (T : HP) (m c : Nat) (st : List Nat) : PR TSt :=
  if tW B n s = 20 then (match st with
    | [] => fl B n s 2
    | o :: st' => bd (sEnd B n (nx B n s)) fun s' => .inr (s', tEnd T m o, m + 1, c, st'))
  else if ¬ bgS (tW B n s) then fl B n s 2
  else if 30 ≤ c then fl B n s 6
  else if (tW B n s = 15 ∨ tW B n s = 19) ∧ 3 ≤ st.length then fl B n s 7
  else bd (sOrd B n (tW B n s) (nx B n s) R N) fun a => bd (sEnd B n a.1) fun s' => .inr (s', tAdd T m a.2, m + 1, c + 1, if tW B n s = 15 ∨ tW B n s = 19 then m :: st else st)
def sTalks (B : Bt) (n : Nat) (R : HP) (N : NT) : Nat → TSt → PR (HP × Nat × Nat)
  | 0, a => .inr (a.2.1, a.2.2.1, a.2.2.2.1)
  | d + 1, a => if n ≤ a.1 then (if a.2.2.2.2 = [] then .inr (a.2.1, a.2.2.1, a.2.2.2.1) else fl B n a.1 2)
    else bd (sStep B n a.1 R N a.2.1 a.2.2.1 a.2.2.2.1 a.2.2.2.2) (fun a' => sTalks B n R N d a')
abbrev isO (w : Int) : Prop := w = 16 ∨ 1519 ≤ w
/-- an entry but for its partner -/
def okEn (R : HP) (x : EN) : Prop :=
  (x.1 = 9 ∧ (x.2.1 = 0 ∨ x.2.1 = 1) ∧ (0 ≤ x.2.2.1 ∧ x.2.2.1 < R 0 1) ∧ (1 ≤ x.2.2.2.1 ∧ x.2.2.2.1 ≤ 9)) ∨ x.1 = 10 ∨ (x.1 = 11 ∧ 0 ≤ x.2.1 ∧ x.2.1 < R 0 1) ∨
  (x.1 = 12 ∧ (0 ≤ x.2.1 ∧ x.2.1 < R 0 3) ∧ (0 ≤ x.2.2.1 ∧ x.2.2.1 < R 0 0) ∧ (0 ≤ x.2.2.2.1 ∧ x.2.2.2.1 < R 0 1)) ∨ (x.1 = 13 ∧ (x.2.1 = 0 ∨ x.2.1 = 1)) ∨ x.1 = 18 ∨
  (x.1 = 16 ∧ 1 ≤ x.2.1 ∧ x.2.1 ≤ 99) ∨
  (1519 ≤ x.1 ∧ x.1 ≤ 1521 ∧ (x.2.1 = 0 ∨ x.2.1 = 1) ∧ (x.1 = 1521 → 0 ≤ x.2.2.1 ∧ x.2.2.1 < R 0 3) ∧ (x.1 < 1521 → 0 ≤ x.2.2.1 ∧ x.2.2.1 ≤ 999 ∧ (x.2.2.2.2 = 60 ∨ x.2.2.2.2 = 61 ∨ x.2.2.2.2 = 62)))
theorem sName_b {B : Bt} {n s : Nat} {R : HP} {N : NT} (h : s ≤ n) (r3 : 0 ≤ R 0 3) : hd (sName B n s R N) tt2 (fun a => s ≤ a.2 ∧ a.2 ≤ n ∧ 0 ≤ a.1 ∧ a.1 < R 0 3) := by
  unfold sName
  split
  · split
    · exact fl_t (by decide)
    · rename_i c
      have := nx_m (B := B) h
      refine ⟨this.1, this.2, ?_⟩
      rcases fnd_at (p := fun i => N i = tL B n s) (R 0 3).toNat 0 with ⟨a, -⟩ | ⟨j, a, -, b, -⟩
      · exact absurd a c
      · show 0 ≤ fnd (fun i => N i = tL B n s) (R 0 3).toNat 0 ∧ fnd (fun i => N i = tL B n s) (R 0 3).toNat 0 < R 0 3
        rw [a]; omega
  · exact fl_t (by decide)
theorem sgn_rg {B : Bt} {n s : Nat} (h : tK B n s = 3) : 59 ≤ B s ∧ B s ≤ 62 := by
  unfold tK at h
  split at h
  · omega
  · split at h
    · omega
    · split at h
      · split at h <;> omega
      · split at h
        · assumption
        · omega
theorem sOrd_b {B : Bt} {n s : Nat} {w : Int} {R : HP} {N : NT} (h : s ≤ n) (W : WR R) (hw : bgS w) : hd (sOrd B n w s R N) tt2 (fun a => s ≤ a.1 ∧ a.1 ≤ n ∧ okEn R a.2 ∧ (isO a.2.1 ↔ (w = 15 ∨ w = 19))) := by
  have r := W.1
  unfold sOrd
  split
  · refine hd_bd.mpr (hd_m (sNum_b h) (fun _ _ q => q) (fun a ha => ?_))
    refine hd_bd.mpr (hd_m (sNum_b ha.2.1) (fun _ _ q => q) (fun b hb => ?_))
    refine hd_bd.mpr (hd_m (sNum_b hb.2.1) (fun _ _ q => q) (fun c hc => ?_))
    refine ⟨by show s ≤ c.2; omega, hc.2.1, Or.inl ⟨rfl, ?_, ?_, ?_⟩, ?_⟩
    · show a.1 = 0 ∨ a.1 = 1; omega
    · show 0 ≤ b.1 ∧ b.1 < R 0 1; omega
    · show 1 ≤ c.1 ∧ c.1 ≤ 9; omega
    · show isO 9 ↔ _; omega
  · split
    · refine hd_bd.mpr (hd_m (sNum_b h) (fun _ _ q => q) (fun a ha => ?_))
      refine ⟨ha.1, ha.2.1, Or.inr (Or.inr (Or.inl ⟨rfl, ?_⟩)), ?_⟩
      · show 0 ≤ a.1 ∧ a.1 < R 0 1; omega
      · show isO 11 ↔ _; omega
    · split
      · refine hd_bd.mpr (hd_m (sName_b h (by omega)) (fun _ _ q => q) (fun t ht => ?_))
        refine hd_bd.mpr (hd_m (sWord_b ht.2.1) (fun _ _ q => q) (fun s2 h2 => ?_))
        refine hd_bd.mpr (hd_m (sNum_b h2.2) (fun _ _ q => q) (fun b hb => ?_))
        refine hd_bd.mpr (hd_m (sNum_b hb.2.1) (fun _ _ q => q) (fun c hc => ?_))
        refine ⟨by show s ≤ c.2; omega, hc.2.1, Or.inr (Or.inr (Or.inr (Or.inl ⟨rfl, ht.2.2, ?_, ?_⟩))), ?_⟩
        · show 0 ≤ b.1 ∧ b.1 < R 0 0; omega
        · show 0 ≤ c.1 ∧ c.1 < R 0 1; omega
        · show isO 12 ↔ _; omega
      · split
        · refine hd_bd.mpr (hd_m (sNum_b h) (fun _ _ q => q) (fun a ha => ?_))
          refine ⟨ha.1, ha.2.1, Or.inr (Or.inr (Or.inr (Or.inr (Or.inl ⟨rfl, ?_⟩)))), ?_⟩
          · show a.1 = 0 ∨ a.1 = 1; omega
          · show isO 13 ↔ _; omega
        · split
          · unfold sTest
            have x := nx_m (B := B) h
            split
            · rename_i cw
              refine hd_bd.mpr (hd_m (sNum_b x.2) (fun _ _ q => q) (fun l hl => ?_))
              split
              · refine hd_bd.mpr (hd_m (sName_b hl.2.1 (by omega)) (fun _ _ q => q) (fun t ht => ?_))
                refine ⟨by show s ≤ t.2; omega, ht.2.1, Or.inr (Or.inr (Or.inr (Or.inr (Or.inr (Or.inr (Or.inr ⟨by show (1519 : Int) ≤ 1521; decide, by show (1521 : Int) ≤ 1521; decide, ?_, fun _ => ht.2.2, fun q => ?_⟩)))))), ?_⟩
                · show l.1 = 0 ∨ l.1 = 1; omega
                · have q : (1521 : Int) < 1521 := q
                  omega
                · show isO 1521 ↔ _; omega
              · unfold sCmp
                split
                · rename_i cs
                  have sg := sgn_rg cs.1
                  have y := nx_m (B := B) hl.2.1
                  refine hd_bd.mpr (hd_m (sNum_b y.2) (fun _ _ q => q) (fun v hv => ?_))
                  have v9 : v.1 ≤ 999 := by
                    have := hv.2.2.2
                    split at this <;> omega
                  refine ⟨by show s ≤ v.2; omega, hv.2.1, Or.inr (Or.inr (Or.inr (Or.inr (Or.inr (Or.inr (Or.inr ⟨?_, ?_, ?_, fun q => ?_, fun _ => ⟨hv.2.2.1, v9, ?_⟩⟩)))))), ?_⟩
                  · show 1519 ≤ 1503 + tW B n s; omega
                  · show 1503 + tW B n s ≤ 1521; omega
                  · show l.1 = 0 ∨ l.1 = 1; omega
                  · have q : 1503 + tW B n s = 1521 := q
                    omega
                  · show B l.2 = 60 ∨ B l.2 = 61 ∨ B l.2 = 62; omega
                  · show isO (1503 + tW B n s) ↔ _; omega
                · exact fl_t (by decide)
            · exact fl_t (by decide)
          · split
            · refine hd_bd.mpr (hd_m (sNum_b h) (fun _ _ q => q) (fun a ha => ?_))
              refine ⟨ha.1, ha.2.1, Or.inr (Or.inr (Or.inr (Or.inr (Or.inr (Or.inr (Or.inl ⟨rfl, ha.2.2⟩)))))), ?_⟩
              show isO 16 ↔ _
              omega
            · refine ⟨Nat.le_refl _, h, ?_, ?_⟩
              · by_cases c : w = 10
                · rw [if_pos c]; exact Or.inr (Or.inl rfl)
                · rw [if_neg c]; exact Or.inr (Or.inr (Or.inr (Or.inr (Or.inr (Or.inl rfl)))))
              · show isO (if w = 10 then 10 else 18) ↔ _
                by_cases c : w = 10
                · rw [if_pos c]; omega
                · rw [if_neg c]; omega
theorem okEn_17 {R : HP} {x : EN} (h : okEn R x) : ¬ x.1 = 17 := by
  unfold okEn at h
  omega
theorem dpT_c {T T' : HP} : ∀ j, (∀ e, e < j → T' 0 e = T 0 e) → dpT T' j = dpT T j
  | 0, _ => rfl
  | j + 1, h => by rw [dpT, dpT, dpT_c j (fun e he => h e (by omega)), h j (by omega)]
def Opn (T : HP) (m : Nat) : List Nat → Prop
  | [] => True
  | o :: st => (o < m ∧ isO (T 0 o) ∧ dpT T o = st.length ∧ (∀ j, o < j → j ≤ m → dpT T o < dpT T j) ∧ ∀ o' ∈ st, o' < o) ∧ Opn T m st
theorem Opn_lt {T : HP} {m : Nat} : ∀ st, Opn T m st → ∀ o ∈ st, o < m ∧ isO (T 0 o)
  | [], _, o, h => by cases h
  | a :: st, h, o, ho => by
    rw [List.mem_cons] at ho
    rcases ho with rfl | ho
    · exact ⟨h.1.1, h.1.2.1⟩
    · exact Opn_lt st h.2 o ho
theorem Opn_up {T T' : HP} {m : Nat} (e0 : ∀ e, e < m → T' 0 e = T 0 e) : ∀ st, Opn T m st → (st.length : Int) ≤ dpT T' (m + 1) → Opn T' (m + 1) st
  | [], _, _ => trivial
  | o :: st, h, hq => by
    have dl : ∀ j, j ≤ m → dpT T' j = dpT T j := fun j hj => dpT_c j (fun e he => e0 e (by omega))
    obtain ⟨⟨a1, a2, a3, a4, a5⟩, a6⟩ := h
    rw [List.length_cons] at hq
    refine ⟨⟨by omega, by rw [e0 o a1]; exact a2, by rw [dl o (by omega)]; exact a3, fun j h1 h2 => ?_, a5⟩, Opn_up e0 st a6 (by omega)⟩
    rw [dl o (by omega)]
    by_cases z : j ≤ m
    · rw [dl j z]; exact a4 j h1 z
    · have : j = m + 1 := by omega
      subst this
      omega
/-- TALKS that have been read so far: m entries, c STEPS, st those without an end yet -/
def WP (T : HP) (m c : Nat) (st : List Nat) (R : HP) : Prop :=
  (m + st.length ≤ 2 * c ∧ c ≤ 30 ∧ st.length ≤ 3) ∧ Opn T m st ∧ dpT T m = st.length ∧ (∀ e, e ≤ m → 0 ≤ dpT T e) ∧
  (∀ e, e < m → okEn R (T 0 e, T 1 e, T 2 e, T 3 e, T 5 e) ∨ T 0 e = 17) ∧
  (∀ e, e < m → isO (T 0 e) → e ∉ st → (e : Int) < T 4 e ∧ T 4 e < m ∧ T 0 (T 4 e).toNat = 17 ∧ T 4 (T 4 e).toNat = e ∧ dpT T ((T 4 e).toNat + 1) = dpT T e ∧ ∀ j : Nat, e < j → (j : Int) ≤ T 4 e → dpT T e < dpT T j) ∧
  (∀ e, e < m → T 0 e = 17 → 0 ≤ T 4 e ∧ T 4 e < e ∧ T 4 (T 4 e).toNat = e ∧ isO (T 0 (T 4 e).toNat) ∧ (T 4 e).toNat ∉ st) ∧
  (∀ k e, m ≤ e ∨ 6 ≤ k → T k e = 0) ∧ ∀ e, e < m → ¬ isO (T 0 e) → T 0 e ≠ 17 → T 4 e = 0
theorem WP_0 {R : HP} : WP (fun _ _ => 0) 0 0 [] R := by
  refine ⟨⟨by decide, by decide, by decide⟩, trivial, rfl, fun e he => ?_, fun e he => by omega, fun e he => by omega, fun e he => by omega, fun _ _ _ => rfl, fun e he => by omega⟩
  have : e = 0 := by omega
  subst this
  exact Int.le_refl 0
theorem WP_add {T R : HP} {m c : Nat} {st : List Nat} {x : EN} (W : WP T m c st R) (c30 : c < 30) (ok : okEn R x) (h3 : isO x.1 → st.length < 3) : WP (tAdd T m x) (m + 1) (c + 1) (if isO x.1 then m :: st else st) R := by
  obtain ⟨a0, a1, a2, a3, a4, a5, a6, a7, a8⟩ := W
  have n17 := okEn_17 ok
  have o : ∀ k e, e ≠ m → tAdd T m x k e = T k e := fun k e he => if_neg he
  have m0 : tAdd T m x 0 m = x.1 := by simp [tAdd]
  have dl : ∀ j, j ≤ m → dpT (tAdd T m x) j = dpT T j := fun j hj => dpT_c j (fun e he => o 0 e (by omega))
  have dm : dpT (tAdd T m x) (m + 1) = st.length + (if isO x.1 then 1 else 0) := by
    rw [dpT, dl m (Nat.le_refl _), m0, a2]
    by_cases z : isO x.1
    · rw [if_pos z, if_pos z]
    · rw [if_neg z, if_neg z, if_neg n17]
  have up : Opn (tAdd T m x) (m + 1) st := Opn_up (fun e he => o 0 e (by omega)) st a1 (by rw [dm]; split <;> omega)
  have ls : (if isO x.1 then m :: st else st).length = st.length + (if isO x.1 then 1 else 0) := by split <;> simp
  refine ⟨⟨?_, by omega, ?_⟩, ?_, ?_, fun e he => ?_, fun e he => ?_, fun e he ho hn => ?_, fun e he h17 => ?_, fun k e hk => ?_, fun e he ho h17 => ?_⟩
  · rw [ls]; split <;> omega
  · rw [ls]
    split
    · rename_i z
      have := h3 z
      omega
    · omega
  · by_cases z : isO x.1
    · rw [if_pos z] at dm ⊢
      refine ⟨⟨by omega, by rw [m0]; exact z, by rw [dl m (Nat.le_refl _)]; exact a2, fun j h1 h2 => ?_, fun o' ho' => (Opn_lt st a1 o' ho').1⟩, up⟩
      have : j = m + 1 := by omega
      subst this
      rw [dl m (Nat.le_refl _), dm]
      omega
    · rw [if_neg z]; exact up
  · rw [dm, ls]
    split <;> simp
  · by_cases z : e ≤ m
    · rw [dl e z]; exact a3 e z
    · have : e = m + 1 := by omega
      subst this
      rw [dm]; split <;> omega
  · by_cases z : e = m
    · subst z
      left
      have : (tAdd T e x 0 e, tAdd T e x 1 e, tAdd T e x 2 e, tAdd T e x 3 e, tAdd T e x 5 e) = x := by simp [tAdd]
      rw [this]; exact ok
    · rw [o 0 e z, o 1 e z, o 2 e z, o 3 e z, o 5 e z]; exact a4 e (by omega)
  · have ne : e ≠ m := by
      intro z
      subst z
      rw [m0] at ho
      rw [if_pos ho] at hn
      exact hn List.mem_cons_self
    have hn' : e ∉ st := by
      intro q
      apply hn
      split
      · exact List.mem_cons_of_mem _ q
      · exact q
    rw [o 0 e ne] at ho
    have q := a5 e (by omega) ho hn'
    rw [o 4 e ne, o 0 _ (by omega), o 4 _ (by omega), dl _ (by omega), dl e (by omega)]
    refine ⟨q.1, by omega, q.2.2.1, q.2.2.2.1, q.2.2.2.2.1, fun j h1 h2 => ?_⟩
    rw [dl j (by omega)]; exact q.2.2.2.2.2 j h1 h2
  · have ne : e ≠ m := by
      intro z
      subst z
      rw [m0] at h17
      exact n17 h17
    rw [o 0 e ne] at h17
    have q := a6 e (by omega) h17
    rw [o 4 e ne, o 4 _ (by omega), o 0 _ (by omega)]
    refine ⟨q.1, q.2.1, q.2.2.1, q.2.2.2.1, fun y => ?_⟩
    split at y
    · rw [List.mem_cons] at y
      rcases y with y | y
      · omega
      · exact q.2.2.2.2 y
    · exact q.2.2.2.2 y
  · by_cases z : e = m
    · subst z
      have k6 : 6 ≤ k := by omega
      simp only [tAdd]
      rw [if_pos trivial, if_neg (by omega), if_neg (by omega), if_neg (by omega), if_neg (by omega), if_neg (by omega)]
    · rw [o k e z]; exact a7 k e (by omega)
  · by_cases z : e = m
    · subst z
      simp [tAdd]
    · rw [o 0 e z] at ho h17
      rw [o 4 e z]; exact a8 e (by omega) ho h17
theorem WP_end {T R : HP} {m c o : Nat} {st : List Nat} (W : WP T m c (o :: st) R) : WP (tEnd T m o) (m + 1) c st R := by
  obtain ⟨a0, a1, a2, a3, a4, a5, a6, a7, a8⟩ := W
  obtain ⟨⟨b1, b2, b3, b4, b5⟩, b6⟩ := a1
  rw [List.length_cons] at a0 a2
  have t0 : ∀ e, e ≠ m → tEnd T m o 0 e = T 0 e := fun e he => by
    unfold tEnd
    rw [if_neg he, if_neg (by omega)]
  have tk : ∀ k e, k ≠ 4 → e ≠ m → tEnd T m o k e = T k e := fun k e hk he => by
    unfold tEnd
    rw [if_neg he, if_neg (by omega)]
  have t4 : ∀ e, e ≠ m → e ≠ o → tEnd T m o 4 e = T 4 e := fun e h1 h2 => by
    unfold tEnd
    rw [if_neg h1, if_neg (by omega)]
  have m0 : tEnd T m o 0 m = 17 := by simp [tEnd]
  have m4 : tEnd T m o 4 m = o := by simp [tEnd]
  have o4 : tEnd T m o 4 o = m := by
    unfold tEnd
    rw [if_neg (by omega), if_pos ⟨rfl, rfl⟩]
  have dl : ∀ j, j ≤ m → dpT (tEnd T m o) j = dpT T j := fun j hj => dpT_c j (fun e he => t0 e (by omega))
  have dm : dpT (tEnd T m o) (m + 1) = st.length := by
    rw [dpT, dl m (Nat.le_refl _), m0, a2, if_neg (by decide), if_pos rfl]
    omega
  refine ⟨⟨by omega, a0.2.1, by omega⟩, Opn_up (fun e he => t0 e (by omega)) st b6 (by rw [dm]; exact Int.le_refl _), dm, fun e he => ?_, fun e he => ?_, fun e he ho hn => ?_, fun e he h17 => ?_, fun k e hk => ?_, fun e he ho h17 => ?_⟩
  · by_cases z : e ≤ m
    · rw [dl e z]; exact a3 e z
    · have : e = m + 1 := by omega
      subst this
      rw [dm]; omega
  · by_cases z : e = m
    · subst z
      exact Or.inr m0
    · rw [t0 e z, tk 1 e (by decide) z, tk 2 e (by decide) z, tk 3 e (by decide) z, tk 5 e (by decide) z]; exact a4 e (by omega)
  · have ne : e ≠ m := by
      intro z
      subst z
      rw [m0] at ho
      omega
    rw [t0 e ne] at ho
    by_cases eo : e = o
    · subst eo
      rw [o4, Int.toNat_natCast, m0, m4, dm, dl e (by omega)]
      refine ⟨by omega, by omega, rfl, rfl, b3.symm, fun j h1 h2 => ?_⟩
      rw [dl j (by omega)]; exact b4 j h1 (by omega)
    · have q := a5 e (by omega) ho (by simp only [List.mem_cons, not_or]; exact ⟨eo, hn⟩)
      have qo : (T 4 e).toNat ≠ o := by
        intro z
        have := q.2.2.1
        rw [z] at this
        omega
      rw [t4 e ne eo, t0 _ (by omega), t4 _ (by omega) qo, dl _ (by omega), dl e (by omega)]
      refine ⟨q.1, by omega, q.2.2.1, q.2.2.2.1, q.2.2.2.2.1, fun j h1 h2 => ?_⟩
      rw [dl j (by omega)]; exact q.2.2.2.2.2 j h1 h2
  · by_cases z : e = m
    · subst z
      rw [m4, Int.toNat_natCast, o4, t0 o (by omega)]
      exact ⟨by omega, by omega, rfl, b2, fun q => by have := b5 o q; omega⟩
    · rw [t0 e z] at h17
      have q := a6 e (by omega) h17
      have eo : e ≠ o := by
        intro y
        subst y
        omega
      have qm : (T 4 e).toNat ∉ o :: st := q.2.2.2.2
      simp only [List.mem_cons, not_or] at qm
      rw [t4 e z eo, t4 _ (by omega) qm.1, t0 _ (by omega)]
      exact ⟨q.1, q.2.1, q.2.2.1, q.2.2.2.1, qm.2⟩
  · by_cases z : e = m
    · subst z
      have k6 : 6 ≤ k := by omega
      simp only [tEnd]
      rw [if_pos trivial, if_neg (by omega), if_neg (by omega)]
    · unfold tEnd
      rw [if_neg z, if_neg (by omega)]
      exact a7 k e (by omega)
  · have ne : e ≠ m := by
      intro z
      subst z
      exact h17 m0
    rw [t0 e ne] at ho h17
    have eo : e ≠ o := by
      intro y
      subst y
      exact ho b2
    rw [t4 e ne eo]; exact a8 e (by omega) ho h17
theorem WP_WT {T R : HP} {m c : Nat} (W : WP T m c [] R) : WT T m R := by
  obtain ⟨a0, a1, a2, a3, a4, a5, a6, a7, -⟩ := W
  have z0 : ([] : List Nat).length = 0 := rfl
  rw [z0] at a0
  refine ⟨by omega, by omega, fun e he => ?_, fun e he => a3 e (by omega), fun o ho hO => ?_⟩
  · have he : e < m := by omega
    have q5 := a5 e he
    rcases a4 e he with q | q
    · unfold okEn at q
      have q : (T 0 e = 9 ∧ (T 1 e = 0 ∨ T 1 e = 1) ∧ (0 ≤ T 2 e ∧ T 2 e < R 0 1) ∧ (1 ≤ T 3 e ∧ T 3 e ≤ 9)) ∨ T 0 e = 10 ∨ (T 0 e = 11 ∧ 0 ≤ T 1 e ∧ T 1 e < R 0 1) ∨
        (T 0 e = 12 ∧ (0 ≤ T 1 e ∧ T 1 e < R 0 3) ∧ (0 ≤ T 2 e ∧ T 2 e < R 0 0) ∧ (0 ≤ T 3 e ∧ T 3 e < R 0 1)) ∨ (T 0 e = 13 ∧ (T 1 e = 0 ∨ T 1 e = 1)) ∨ T 0 e = 18 ∨
        (T 0 e = 16 ∧ 1 ≤ T 1 e ∧ T 1 e ≤ 99) ∨
        (1519 ≤ T 0 e ∧ T 0 e ≤ 1521 ∧ (T 1 e = 0 ∨ T 1 e = 1) ∧ (T 0 e = 1521 → 0 ≤ T 2 e ∧ T 2 e < R 0 3) ∧ (T 0 e < 1521 → 0 ≤ T 2 e ∧ T 2 e ≤ 999 ∧ (T 5 e = 60 ∨ T 5 e = 61 ∨ T 5 e = 62))) := q
      rcases q with q | q | q | q | q | q | q | q
      · exact Or.inl q
      · exact Or.inr (Or.inl q)
      · exact Or.inr (Or.inr (Or.inl q))
      · exact Or.inr (Or.inr (Or.inr (Or.inl q)))
      · exact Or.inr (Or.inr (Or.inr (Or.inr (Or.inl q))))
      · exact Or.inr (Or.inr (Or.inr (Or.inr (Or.inr (Or.inl q)))))
      · have p := q5 (Or.inl q.1) List.not_mem_nil
        exact Or.inr (Or.inr (Or.inr (Or.inr (Or.inr (Or.inr (Or.inl ⟨q.1, q.2.1, q.2.2, p.1, p.2.1, p.2.2.1, p.2.2.2.1⟩))))))
      · have p := q5 (Or.inr q.1) List.not_mem_nil
        exact Or.inr (Or.inr (Or.inr (Or.inr (Or.inr (Or.inr (Or.inr (Or.inr ⟨q.1, q.2.1, q.2.2.1, q.2.2.2.1, q.2.2.2.2, p.1, p.2.1, p.2.2.1, p.2.2.2.1⟩)))))))
    · have p := a6 e he q
      exact Or.inr (Or.inr (Or.inr (Or.inr (Or.inr (Or.inr (Or.inr (Or.inl ⟨q, p.1, p.2.1, p.2.2.1, p.2.2.2.1⟩)))))))
  · have p := a5 o (by omega) hO List.not_mem_nil
    exact ⟨p.2.2.2.2.1, p.2.2.2.2.2⟩
theorem sStep_b {B : Bt} {n s : Nat} {R : HP} {N : NT} {T : HP} {m c : Nat} {st : List Nat} (h : s < n) (WR' : WR R) (W : WP T m c st R) : hd (sStep B n s R N T m c st) tt2 (fun a => (s < a.1 ∧ a.1 ≤ n) ∧ WP a.2.1 a.2.2.1 a.2.2.2.1 a.2.2.2.2 R) := by
  have x := nx_lt (B := B) h
  unfold sStep
  split
  · cases st with
    | nil => exact fl_t (by decide)
    | cons o st =>
      refine hd_bd.mpr (hd_m (sEnd_b x.2) (fun _ _ q => q) (fun s' h' => ?_))
      exact ⟨⟨by show s < s'; omega, h'.2⟩, WP_end W⟩
  · split
    · exact fl_t (by decide)
    · rename_i bg
      split
      · exact fl_t (by decide)
      · rename_i c30
        split
        · exact fl_t (by decide)
        · rename_i dp
          have bg' : bgS (tW B n s) := by
            by_cases z : bgS (tW B n s)
            · exact z
            · exact absurd z bg
          refine hd_bd.mpr (hd_m (sOrd_b x.2 WR' bg') (fun _ _ q => q) (fun a ha => ?_))
          refine hd_bd.mpr (hd_m (sEnd_b ha.2.1) (fun _ _ q => q) (fun s' h' => ?_))
          refine ⟨⟨by show s < s'; omega, h'.2⟩, ?_⟩
          have := WP_add W (by omega) ha.2.2.1 (fun z => by
            have := ha.2.2.2.mp z
            omega)
          have e : (if isO a.2.1 then m :: st else st) = (if tW B n s = 15 ∨ tW B n s = 19 then m :: st else st) := by
            by_cases z : isO a.2.1
            · rw [if_pos z, if_pos (ha.2.2.2.mp z)]
            · rw [if_neg z, if_neg (fun y => z (ha.2.2.2.mpr y))]
          rw [e] at this
          exact this
theorem sTalks_b {B : Bt} {n : Nat} {R : HP} {N : NT} (WR' : WR R) (n3 : n ≤ 300) : ∀ (d p : Nat) (a : TSt), p + d = 301 → p ≤ a.1 → a.1 ≤ n → WP a.2.1 a.2.2.1 a.2.2.2.1 a.2.2.2.2 R → hd (sTalks B n R N d a) tt2 (fun o => WP o.1 o.2.1 o.2.2 [] R)
  | 0, p, a, hp, h1, h2, W => by omega
  | d + 1, p, a, hp, h1, h2, W => by
    rw [sTalks]
    by_cases c : n ≤ a.1
    · rw [if_pos c]
      split
      · rename_i e
        rw [e] at W
        exact W
      · exact fl_t (by decide)
    · rw [if_neg c]
      refine hd_bd.mpr (hd_m (sStep_b (by omega) WR' W) (fun _ _ q => q) (fun a' h' => ?_))
      exact sTalks_b WR' n3 d (p + 1) a' (by omega) (by have := h'.1.1; omega) h'.1.2 h'.2
