/-! ===== one ROOM becomes another, TALKS too ===== -/
def mvF (h : HP) (w f0 f1 : Nat) (c : Nat → Nat → Bool) : HP := fun k i => if f0 ≤ k ∧ k < f0 + w ∧ c (k - f0) i = true then h (f1 + (k - f0)) i else h k i
theorem mvF_src {h : HP} {w f0 f1 m j : Nat} {c : Nat → Nat → Bool} (d : f1 + w ≤ f0 ∨ f0 + w ≤ f1) (hm : m < w) : mvF h w f0 f1 c (f1 + m) j = h (f1 + m) j := by
  simp only [mvF]
  rw [if_neg (by omega)]
theorem mvF_0 {h : HP} {w f0 f1 : Nat} : mvF h w f0 f1 (fun _ _ => false) = h := by
  funext k i
  simp [mvF]
theorem mvF_hs {h : HP} {w f0 f1 m j : Nat} {c : Nat → Nat → Bool} (d : f1 + w ≤ f0 ∨ f0 + w ≤ f1) (hm : m < w) : hs (mvF h w f0 f1 c) (f0 + m) j (mvF h w f0 f1 c (f1 + m) j) = mvF h w f0 f1 (fun a b => c a b || (a == m && b == j)) := by
  rw [mvF_src d hm]
  funext k i
  simp only [mvF, hs]
  by_cases z : k = f0 + m ∧ i = j
  · obtain ⟨rfl, rfl⟩ := z
    have e : f0 + m - f0 = m := by omega
    rw [if_pos ⟨rfl, rfl⟩, e, if_pos ⟨by omega, by omega, by simp⟩]
  · rw [if_neg z]
    by_cases y : f0 ≤ k ∧ k < f0 + w
    · have q : (c (k - f0) i || (k - f0 == m && i == j)) = c (k - f0) i := by
        have : (k - f0 == m && i == j) = false := by
          simp only [Bool.and_eq_false_iff, beq_eq_false_iff_ne]
          omega
        rw [this, Bool.or_false]
      simp only [q]
    · rw [if_neg (by omega), if_neg (by omega)]
theorem mvF_hs0 {h : HP} {w f0 f1 j : Nat} {c : Nat → Nat → Bool} (d : f1 + w ≤ f0 ∨ f0 + w ≤ f1) (hm : 0 < w) : hs (mvF h w f0 f1 c) f0 j (mvF h w f0 f1 c f1 j) = mvF h w f0 f1 (fun a b => c a b || (a == 0 && b == j)) := mvF_hs (m := 0) d hm
theorem mvF_cpy {h : HP} {w f0 f1 m n : Nat} {c : Nat → Nat → Bool} (d : f1 + w ≤ f0 ∨ f0 + w ≤ f1) (hm : m < w) : cpy (mvF h w f0 f1 c) (f1 + m) 0 (f0 + m) 0 n = mvF h w f0 f1 (fun a b => c a b || (a == m && decide (b < n))) := by
  funext k i
  simp only [cpy]
  by_cases z : k = f0 + m ∧ 0 ≤ i ∧ i < 0 + n
  · obtain ⟨rfl, -, z⟩ := z
    have e : f0 + m - f0 = m := by omega
    rw [if_pos ⟨rfl, by omega, z⟩, mvF_src d hm]
    have q : 0 + (i - 0) = i := by omega
    rw [q]
    simp only [mvF]
    rw [e, if_pos ⟨by omega, by omega, by simp; omega⟩]
  · rw [if_neg z]
    simp only [mvF]
    by_cases y : f0 ≤ k ∧ k < f0 + w
    · have q : (c (k - f0) i || (k - f0 == m && decide (i < n))) = c (k - f0) i := by
        have : (k - f0 == m && decide (i < n)) = false := by
          simp only [Bool.and_eq_false_iff, beq_eq_false_iff_ne, decide_eq_false_iff_not]
          omega
        rw [this, Bool.or_false]
      simp only [q]
    · rw [if_neg (by omega), if_neg (by omega)]
def BecF (h h' : HP) (fd fs : Nat) : Prop := (∀ i, i < 5 ∨ i = 12 → h' fd i = h fs i) ∧ (∀ m i, 1 ≤ m → m < 8 → i < (if m = 1 then 2 else if m = 2 then 7 else if m = 6 then 20 else 10) → h' (fd + m) i = h (fs + m) i) ∧ (∀ k, ¬ (fd ≤ k ∧ k < fd + 8) → h' k = h k)
def BecT (h h' : HP) (td ts : Nat) : Prop := (∀ i, i < 3 → h' td i = h ts i) ∧ (∀ m i : Nat, 1 ≤ m → m < 6 → (i : Int) < h ts 2 → h' (td + m) i = h (ts + m) i) ∧ (∀ k, ¬ (td ≤ k ∧ k < td + 6) → h' k = h k)

theorem g_Fl_become_0 {Q : PQ} {h : HP}  {f0 : Nat} (h_f0 : isF f0) {f1 : Nat} (h_f1 : isF f1)
    (k1 : Wp true i_Fl_become 8 [vr f0, vr f1] [] (hs h f0 0 (h f1 0)) Q) :
    Wp true i_Fl_become 0 [vr f0, vr f1] [] h Q := by
  refine r_aload_n (v := f0) f_29_0 rfl (F_n h_f0) ?_
  refine r_aload_n (v := f1) f_29_1 rfl (F_n h_f1) ?_
  refine r_geti (v := h f1 0) f_29_2 (F_k h_f1) (by decide) rfl ?_
  refine r_puti f_29_5 (F_k h_f0) (by decide) ?_
  exact k1

theorem g_Fl_become_8 {Q : PQ} {h : HP}  {f0 : Nat} (h_f0 : isF f0) {f1 : Nat} (h_f1 : isF f1)
    (k1 : Wp true i_Fl_become 16 [vr f0, vr f1] [] (hs h f0 1 (h f1 1)) Q) :
    Wp true i_Fl_become 8 [vr f0, vr f1] [] h Q := by
  refine r_aload_n (v := f0) f_29_8 rfl (F_n h_f0) ?_
  refine r_aload_n (v := f1) f_29_9 rfl (F_n h_f1) ?_
  refine r_geti (v := h f1 1) f_29_10 (F_k h_f1) (by decide) rfl ?_
  refine r_puti f_29_13 (F_k h_f0) (by decide) ?_
  exact k1

theorem g_Fl_become_16 {Q : PQ} {h : HP}  {f0 : Nat} (h_f0 : isF f0) {f1 : Nat} (h_f1 : isF f1)
    (k1 : Wp true i_Fl_become 24 [vr f0, vr f1] [] (hs h f0 2 (h f1 2)) Q) :
    Wp true i_Fl_become 16 [vr f0, vr f1] [] h Q := by
  refine r_aload_n (v := f0) f_29_16 rfl (F_n h_f0) ?_
  refine r_aload_n (v := f1) f_29_17 rfl (F_n h_f1) ?_
  refine r_geti (v := h f1 2) f_29_18 (F_k h_f1) (by decide) rfl ?_
  refine r_puti f_29_21 (F_k h_f0) (by decide) ?_
  exact k1

theorem g_Fl_become_24 {Q : PQ} {h : HP}  {f0 : Nat} (h_f0 : isF f0) {f1 : Nat} (h_f1 : isF f1)
    (k1 : Wp true i_Fl_become 32 [vr f0, vr f1] [] (hs h f0 3 (h f1 3)) Q) :
    Wp true i_Fl_become 24 [vr f0, vr f1] [] h Q := by
  refine r_aload_n (v := f0) f_29_24 rfl (F_n h_f0) ?_
  refine r_aload_n (v := f1) f_29_25 rfl (F_n h_f1) ?_
  refine r_geti (v := h f1 3) f_29_26 (F_k h_f1) (by decide) rfl ?_
  refine r_puti f_29_29 (F_k h_f0) (by decide) ?_
  exact k1

theorem g_Fl_become_32 {Q : PQ} {h : HP}  {f0 : Nat} (h_f0 : isF f0) {f1 : Nat} (h_f1 : isF f1)
    (k1 : Wp true i_Fl_become 40 [vr f0, vr f1] [] (hs h f0 4 (h f1 4)) Q) :
    Wp true i_Fl_become 32 [vr f0, vr f1] [] h Q := by
  refine r_aload_n (v := f0) f_29_32 rfl (F_n h_f0) ?_
  refine r_aload_n (v := f1) f_29_33 rfl (F_n h_f1) ?_
  refine r_geti (v := h f1 4) f_29_34 (F_k h_f1) (by decide) rfl ?_
  refine r_puti f_29_37 (F_k h_f0) (by decide) ?_
  exact k1

theorem g_Fl_become_40 {Q : PQ} {h : HP}  {f0 : Nat} (h_f0 : isF f0) {f1 : Nat} (h_f1 : isF f1)
    (k1 : Wp true i_Fl_become 48 [vr f0, vr f1] [] (hs h f0 12 (h f1 12)) Q) :
    Wp true i_Fl_become 40 [vr f0, vr f1] [] h Q := by
  refine r_aload_n (v := f0) f_29_40 rfl (F_n h_f0) ?_
  refine r_aload_n (v := f1) f_29_41 rfl (F_n h_f1) ?_
  refine r_geti (v := h f1 12) f_29_42 (F_k h_f1) (by decide) rfl ?_
  refine r_puti f_29_45 (F_k h_f0) (by decide) ?_
  exact k1

theorem g_Fl_become_48 {Q : PQ} {h : HP}  {f0 : Nat} (h_f0 : isF f0) {f1 : Nat} (h_f1 : isF f1)
    (k1 : Wp true i_Fl_become 60 [vr f0, vr f1] [] (hs h (f0 + 1) 0 (h (f1 + 1) 0)) Q) :
    Wp true i_Fl_become 48 [vr f0, vr f1] [] h Q := by
  refine r_aload_n (v := f0) f_29_48 rfl (F_n h_f0) ?_
  refine r_getr (q := (f0 + 1)) f_29_49 (F_k h_f0) (by decide) (Or.inl rfl) rfl ?_
  refine r_iconst f_29_52 (by decide) ?_
  refine r_aload_n (v := f1) f_29_53 rfl (F_n h_f1) ?_
  refine r_getr (q := (f1 + 1)) f_29_54 (F_k h_f1) (by decide) (Or.inl rfl) rfl ?_
  refine r_iconst f_29_57 (by decide) ?_
  refine r_iaload (n := 2) (v := h (f1 + 1) 0) f_29_58 (F_1 h_f1) (by decide) rfl ?_
  refine r_iastore (n := 2) f_29_59 (F_1 h_f0) (by decide) ?_
  exact k1

theorem g_Fl_become_60 {Q : PQ} {h : HP}  {f0 : Nat} (h_f0 : isF f0) {f1 : Nat} (h_f1 : isF f1)
    (k1 : Wp true i_Fl_become 72 [vr f0, vr f1] [] (hs h (f0 + 1) 1 (h (f1 + 1) 1)) Q) :
    Wp true i_Fl_become 60 [vr f0, vr f1] [] h Q := by
  refine r_aload_n (v := f0) f_29_60 rfl (F_n h_f0) ?_
  refine r_getr (q := (f0 + 1)) f_29_61 (F_k h_f0) (by decide) (Or.inl rfl) rfl ?_
  refine r_iconst f_29_64 (by decide) ?_
  refine r_aload_n (v := f1) f_29_65 rfl (F_n h_f1) ?_
  refine r_getr (q := (f1 + 1)) f_29_66 (F_k h_f1) (by decide) (Or.inl rfl) rfl ?_
  refine r_iconst f_29_69 (by decide) ?_
  refine r_iaload (n := 2) (v := h (f1 + 1) 1) f_29_70 (F_1 h_f1) (by decide) rfl ?_
  refine r_iastore (n := 2) f_29_71 (F_1 h_f0) (by decide) ?_
  exact k1

theorem g_Fl_become_72 {Q : PQ} {h : HP}  {f0 : Nat} (h_f0 : isF f0) {f1 : Nat} (h_f1 : isF f1)
    (k1 : Wp true i_Fl_become 87 [vr f0, vr f1] [] (cpy h (f1 + 2) 0 (f0 + 2) 0 7) Q) :
    Wp true i_Fl_become 72 [vr f0, vr f1] [] h Q := by
  refine r_aload_n (v := f1) f_29_72 rfl (F_n h_f1) ?_
  refine r_getr (q := (f1 + 2)) f_29_73 (F_k h_f1) (by decide) (Or.inl rfl) rfl ?_
  refine r_iconst f_29_76 (by decide) ?_
  refine r_aload_n (v := f0) f_29_77 rfl (F_n h_f0) ?_
  refine r_getr (q := (f0 + 2)) f_29_78 (F_k h_f0) (by decide) (Or.inl rfl) rfl ?_
  refine r_iconst f_29_81 (by decide) ?_
  refine r_bipush f_29_82 (by decide) ?_
  refine r_copy (na := 7) (nb := 7) f_29_84 ⟨by rw [show zck (f1 + 2) = 20 from (F_2 h_f1).1, show zck (f0 + 2) = 20 from (F_2 h_f0).1], by rw [show zck (f1 + 2) = 20 from (F_2 h_f1).1]; decide⟩ ⟨(F_2 h_f1).2, (F_2 h_f0).2⟩ (by decide) (by decide) ?_
  exact k1

theorem g_Fl_become_87 {Q : PQ} {h : HP}  {f0 : Nat} (h_f0 : isF f0) {f1 : Nat} (h_f1 : isF f1)
    (k1 : Wp true i_Fl_become 102 [vr f0, vr f1] [] (cpy h (f1 + 3) 0 (f0 + 3) 0 10) Q) :
    Wp true i_Fl_become 87 [vr f0, vr f1] [] h Q := by
  refine r_aload_n (v := f1) f_29_87 rfl (F_n h_f1) ?_
  refine r_getr (q := (f1 + 3)) f_29_88 (F_k h_f1) (by decide) (Or.inl rfl) rfl ?_
  refine r_iconst f_29_91 (by decide) ?_
  refine r_aload_n (v := f0) f_29_92 rfl (F_n h_f0) ?_
  refine r_getr (q := (f0 + 3)) f_29_93 (F_k h_f0) (by decide) (Or.inl rfl) rfl ?_
  refine r_iconst f_29_96 (by decide) ?_
  refine r_bipush f_29_97 (by decide) ?_
  refine r_copy (na := 10) (nb := 10) f_29_99 ⟨by rw [show zck (f1 + 3) = 21 from (F_3 h_f1).1, show zck (f0 + 3) = 21 from (F_3 h_f0).1], by rw [show zck (f1 + 3) = 21 from (F_3 h_f1).1]; decide⟩ ⟨(F_3 h_f1).2, (F_3 h_f0).2⟩ (by decide) (by decide) ?_
  exact k1

theorem g_Fl_become_102 {Q : PQ} {h : HP}  {f0 : Nat} (h_f0 : isF f0) {f1 : Nat} (h_f1 : isF f1)
    (k1 : Wp true i_Fl_become 117 [vr f0, vr f1] [] (cpy h (f1 + 4) 0 (f0 + 4) 0 10) Q) :
    Wp true i_Fl_become 102 [vr f0, vr f1] [] h Q := by
  refine r_aload_n (v := f1) f_29_102 rfl (F_n h_f1) ?_
  refine r_getr (q := (f1 + 4)) f_29_103 (F_k h_f1) (by decide) (Or.inl rfl) rfl ?_
  refine r_iconst f_29_106 (by decide) ?_
  refine r_aload_n (v := f0) f_29_107 rfl (F_n h_f0) ?_
  refine r_getr (q := (f0 + 4)) f_29_108 (F_k h_f0) (by decide) (Or.inl rfl) rfl ?_
  refine r_iconst f_29_111 (by decide) ?_
  refine r_bipush f_29_112 (by decide) ?_
  refine r_copy (na := 10) (nb := 10) f_29_114 ⟨by rw [show zck (f1 + 4) = 20 from (F_4 h_f1).1, show zck (f0 + 4) = 20 from (F_4 h_f0).1], by rw [show zck (f1 + 4) = 20 from (F_4 h_f1).1]; decide⟩ ⟨(F_4 h_f1).2, (F_4 h_f0).2⟩ (by decide) (by decide) ?_
  exact k1

theorem g_Fl_become_117 {Q : PQ} {h : HP}  {f0 : Nat} (h_f0 : isF f0) {f1 : Nat} (h_f1 : isF f1)
    (k1 : Wp true i_Fl_become 132 [vr f0, vr f1] [] (cpy h (f1 + 5) 0 (f0 + 5) 0 10) Q) :
    Wp true i_Fl_become 117 [vr f0, vr f1] [] h Q := by
  refine r_aload_n (v := f1) f_29_117 rfl (F_n h_f1) ?_
  refine r_getr (q := (f1 + 5)) f_29_118 (F_k h_f1) (by decide) (Or.inl rfl) rfl ?_
  refine r_iconst f_29_121 (by decide) ?_
  refine r_aload_n (v := f0) f_29_122 rfl (F_n h_f0) ?_
  refine r_getr (q := (f0 + 5)) f_29_123 (F_k h_f0) (by decide) (Or.inl rfl) rfl ?_
  refine r_iconst f_29_126 (by decide) ?_
  refine r_bipush f_29_127 (by decide) ?_
  refine r_copy (na := 10) (nb := 10) f_29_129 ⟨by rw [show zck (f1 + 5) = 20 from (F_5 h_f1).1, show zck (f0 + 5) = 20 from (F_5 h_f0).1], by rw [show zck (f1 + 5) = 20 from (F_5 h_f1).1]; decide⟩ ⟨(F_5 h_f1).2, (F_5 h_f0).2⟩ (by decide) (by decide) ?_
  exact k1

theorem g_Fl_become_132 {Q : PQ} {h : HP}  {f0 : Nat} (h_f0 : isF f0) {f1 : Nat} (h_f1 : isF f1)
    (k1 : Wp true i_Fl_become 147 [vr f0, vr f1] [] (cpy h (f1 + 6) 0 (f0 + 6) 0 20) Q) :
    Wp true i_Fl_become 132 [vr f0, vr f1] [] h Q := by
  refine r_aload_n (v := f1) f_29_132 rfl (F_n h_f1) ?_
  refine r_getr (q := (f1 + 6)) f_29_133 (F_k h_f1) (by decide) (Or.inl rfl) rfl ?_
  refine r_iconst f_29_136 (by decide) ?_
  refine r_aload_n (v := f0) f_29_137 rfl (F_n h_f0) ?_
  refine r_getr (q := (f0 + 6)) f_29_138 (F_k h_f0) (by decide) (Or.inl rfl) rfl ?_
  refine r_iconst f_29_141 (by decide) ?_
  refine r_bipush f_29_142 (by decide) ?_
  refine r_copy (na := 20) (nb := 20) f_29_144 ⟨by rw [show zck (f1 + 6) = 20 from (F_6 h_f1).1, show zck (f0 + 6) = 20 from (F_6 h_f0).1], by rw [show zck (f1 + 6) = 20 from (F_6 h_f1).1]; decide⟩ ⟨(F_6 h_f1).2, (F_6 h_f0).2⟩ (by decide) (by decide) ?_
  exact k1

theorem g_Fl_become_147 {Q : PQ} {h : HP}  {f0 : Nat} (h_f0 : isF f0) {f1 : Nat} (h_f1 : isF f1)
    (k1 : Q none (cpy h (f1 + 7) 0 (f0 + 7) 0 10)) :
    Wp true i_Fl_become 147 [vr f0, vr f1] [] h Q := by
  refine r_aload_n (v := f1) f_29_147 rfl (F_n h_f1) ?_
  refine r_getr (q := (f1 + 7)) f_29_148 (F_k h_f1) (by decide) (Or.inl rfl) rfl ?_
  refine r_iconst f_29_151 (by decide) ?_
  refine r_aload_n (v := f0) f_29_152 rfl (F_n h_f0) ?_
  refine r_getr (q := (f0 + 7)) f_29_153 (F_k h_f0) (by decide) (Or.inl rfl) rfl ?_
  refine r_iconst f_29_156 (by decide) ?_
  refine r_bipush f_29_157 (by decide) ?_
  refine r_copy (na := 10) (nb := 10) f_29_159 ⟨by rw [show zck (f1 + 7) = 20 from (F_7 h_f1).1, show zck (f0 + 7) = 20 from (F_7 h_f0).1], by rw [show zck (f1 + 7) = 20 from (F_7 h_f1).1]; decide⟩ ⟨(F_7 h_f1).2, (F_7 h_f0).2⟩ (by decide) (by decide) ?_
  exact r_retv f_29_162 rfl k1

theorem g_Ta_become_0 {Q : PQ} {h : HP}  {t0 : Nat} (h_t0 : isT t0) {t1 : Nat} (h_t1 : isT t1)
    (o1 : h t1 0 = 0 ∨ h t1 0 = 1)
    (k2 : Wp true i_Ta_become 8 [vr t0, vr t1] [] (hs h t0 0 (h t1 0)) Q) :
    Wp true i_Ta_become 0 [vr t0, vr t1] [] h Q := by
  refine r_aload_n (v := t0) f_105_0 rfl (T_n h_t0) ?_
  refine r_aload_n (v := t1) f_105_1 rfl (T_n h_t1) ?_
  refine r_geti (v := h t1 0) f_105_2 (T_k h_t1) (by decide) rfl ?_
  refine r_putz f_105_5 (T_k h_t0) (by decide) o1 ?_
  exact k2

theorem g_Ta_become_8 {Q : PQ} {h : HP}  {t0 : Nat} (h_t0 : isT t0) {t1 : Nat} (h_t1 : isT t1)
    (k1 : Wp true i_Ta_become 16 [vr t0, vr t1] [] (hs h t0 1 (h t1 1)) Q) :
    Wp true i_Ta_become 8 [vr t0, vr t1] [] h Q := by
  refine r_aload_n (v := t0) f_105_8 rfl (T_n h_t0) ?_
  refine r_aload_n (v := t1) f_105_9 rfl (T_n h_t1) ?_
  refine r_geti (v := h t1 1) f_105_10 (T_k h_t1) (by decide) rfl ?_
  refine r_puti f_105_13 (T_k h_t0) (by decide) ?_
  exact k1

theorem g_Ta_become_16 {Q : PQ} {h : HP}  {t0 : Nat} (h_t0 : isT t0) {t1 : Nat} (h_t1 : isT t1)
    (k1 : Wp true i_Ta_become 24 [vr t0, vr t1] [] (hs h t0 2 (h t1 2)) Q) :
    Wp true i_Ta_become 16 [vr t0, vr t1] [] h Q := by
  refine r_aload_n (v := t0) f_105_16 rfl (T_n h_t0) ?_
  refine r_aload_n (v := t1) f_105_17 rfl (T_n h_t1) ?_
  refine r_geti (v := h t1 2) f_105_18 (T_k h_t1) (by decide) rfl ?_
  refine r_puti f_105_21 (T_k h_t0) (by decide) ?_
  exact k1

theorem g_Ta_become_24 {Q : PQ} {h : HP}  {t0 : Nat} (h_t0 : isT t0) {t1 : Nat} (h_t1 : isT t1)
    (o1 : 0 ≤ h t0 2 ∧ 0 ≤ (0 : Int) ∧ 0 ≤ (0 : Int) ∧ (0 : Int) + (h t0 2) ≤ 60 ∧ (0 : Int) + (h t0 2) ≤ 60)
    (k2 : Wp true i_Ta_become 41 [vr t0, vr t1] [] (cpy h (t1 + 1) 0 (t0 + 1) 0 (h t0 2).toNat) Q) :
    Wp true i_Ta_become 24 [vr t0, vr t1] [] h Q := by
  refine r_aload_n (v := t1) f_105_24 rfl (T_n h_t1) ?_
  refine r_getr (q := (t1 + 1)) f_105_25 (T_k h_t1) (by decide) (Or.inl rfl) rfl ?_
  refine r_iconst f_105_28 (by decide) ?_
  refine r_aload_n (v := t0) f_105_29 rfl (T_n h_t0) ?_
  refine r_getr (q := (t0 + 1)) f_105_30 (T_k h_t0) (by decide) (Or.inl rfl) rfl ?_
  refine r_iconst f_105_33 (by decide) ?_
  refine r_aload_n (v := t0) f_105_34 rfl (T_n h_t0) ?_
  refine r_geti (v := h t0 2) f_105_35 (T_k h_t0) (by decide) rfl ?_
  refine r_copy (na := 60) (nb := 60) f_105_38 ⟨by rw [show zck (t1 + 1) = 20 from (T_1 h_t1).1, show zck (t0 + 1) = 20 from (T_1 h_t0).1], by rw [show zck (t1 + 1) = 20 from (T_1 h_t1).1]; decide⟩ ⟨(T_1 h_t1).2, (T_1 h_t0).2⟩ o1 (by decide) ?_
  exact k2

theorem g_Ta_become_41 {Q : PQ} {h : HP}  {t0 : Nat} (h_t0 : isT t0) {t1 : Nat} (h_t1 : isT t1)
    (o1 : 0 ≤ h t0 2 ∧ 0 ≤ (0 : Int) ∧ 0 ≤ (0 : Int) ∧ (0 : Int) + (h t0 2) ≤ 60 ∧ (0 : Int) + (h t0 2) ≤ 60)
    (k2 : Wp true i_Ta_become 58 [vr t0, vr t1] [] (cpy h (t1 + 2) 0 (t0 + 2) 0 (h t0 2).toNat) Q) :
    Wp true i_Ta_become 41 [vr t0, vr t1] [] h Q := by
  refine r_aload_n (v := t1) f_105_41 rfl (T_n h_t1) ?_
  refine r_getr (q := (t1 + 2)) f_105_42 (T_k h_t1) (by decide) (Or.inl rfl) rfl ?_
  refine r_iconst f_105_45 (by decide) ?_
  refine r_aload_n (v := t0) f_105_46 rfl (T_n h_t0) ?_
  refine r_getr (q := (t0 + 2)) f_105_47 (T_k h_t0) (by decide) (Or.inl rfl) rfl ?_
  refine r_iconst f_105_50 (by decide) ?_
  refine r_aload_n (v := t0) f_105_51 rfl (T_n h_t0) ?_
  refine r_geti (v := h t0 2) f_105_52 (T_k h_t0) (by decide) rfl ?_
  refine r_copy (na := 60) (nb := 60) f_105_55 ⟨by rw [show zck (t1 + 2) = 20 from (T_2 h_t1).1, show zck (t0 + 2) = 20 from (T_2 h_t0).1], by rw [show zck (t1 + 2) = 20 from (T_2 h_t1).1]; decide⟩ ⟨(T_2 h_t1).2, (T_2 h_t0).2⟩ o1 (by decide) ?_
  exact k2

theorem g_Ta_become_58 {Q : PQ} {h : HP}  {t0 : Nat} (h_t0 : isT t0) {t1 : Nat} (h_t1 : isT t1)
    (o1 : 0 ≤ h t0 2 ∧ 0 ≤ (0 : Int) ∧ 0 ≤ (0 : Int) ∧ (0 : Int) + (h t0 2) ≤ 60 ∧ (0 : Int) + (h t0 2) ≤ 60)
    (k2 : Wp true i_Ta_become 75 [vr t0, vr t1] [] (cpy h (t1 + 3) 0 (t0 + 3) 0 (h t0 2).toNat) Q) :
    Wp true i_Ta_become 58 [vr t0, vr t1] [] h Q := by
  refine r_aload_n (v := t1) f_105_58 rfl (T_n h_t1) ?_
  refine r_getr (q := (t1 + 3)) f_105_59 (T_k h_t1) (by decide) (Or.inl rfl) rfl ?_
  refine r_iconst f_105_62 (by decide) ?_
  refine r_aload_n (v := t0) f_105_63 rfl (T_n h_t0) ?_
  refine r_getr (q := (t0 + 3)) f_105_64 (T_k h_t0) (by decide) (Or.inl rfl) rfl ?_
  refine r_iconst f_105_67 (by decide) ?_
  refine r_aload_n (v := t0) f_105_68 rfl (T_n h_t0) ?_
  refine r_geti (v := h t0 2) f_105_69 (T_k h_t0) (by decide) rfl ?_
  refine r_copy (na := 60) (nb := 60) f_105_72 ⟨by rw [show zck (t1 + 3) = 20 from (T_3 h_t1).1, show zck (t0 + 3) = 20 from (T_3 h_t0).1], by rw [show zck (t1 + 3) = 20 from (T_3 h_t1).1]; decide⟩ ⟨(T_3 h_t1).2, (T_3 h_t0).2⟩ o1 (by decide) ?_
  exact k2

theorem g_Ta_become_75 {Q : PQ} {h : HP}  {t0 : Nat} (h_t0 : isT t0) {t1 : Nat} (h_t1 : isT t1)
    (o1 : 0 ≤ h t0 2 ∧ 0 ≤ (0 : Int) ∧ 0 ≤ (0 : Int) ∧ (0 : Int) + (h t0 2) ≤ 60 ∧ (0 : Int) + (h t0 2) ≤ 60)
    (k2 : Wp true i_Ta_become 92 [vr t0, vr t1] [] (cpy h (t1 + 4) 0 (t0 + 4) 0 (h t0 2).toNat) Q) :
    Wp true i_Ta_become 75 [vr t0, vr t1] [] h Q := by
  refine r_aload_n (v := t1) f_105_75 rfl (T_n h_t1) ?_
  refine r_getr (q := (t1 + 4)) f_105_76 (T_k h_t1) (by decide) (Or.inl rfl) rfl ?_
  refine r_iconst f_105_79 (by decide) ?_
  refine r_aload_n (v := t0) f_105_80 rfl (T_n h_t0) ?_
  refine r_getr (q := (t0 + 4)) f_105_81 (T_k h_t0) (by decide) (Or.inl rfl) rfl ?_
  refine r_iconst f_105_84 (by decide) ?_
  refine r_aload_n (v := t0) f_105_85 rfl (T_n h_t0) ?_
  refine r_geti (v := h t0 2) f_105_86 (T_k h_t0) (by decide) rfl ?_
  refine r_copy (na := 60) (nb := 60) f_105_89 ⟨by rw [show zck (t1 + 4) = 20 from (T_4 h_t1).1, show zck (t0 + 4) = 20 from (T_4 h_t0).1], by rw [show zck (t1 + 4) = 20 from (T_4 h_t1).1]; decide⟩ ⟨(T_4 h_t1).2, (T_4 h_t0).2⟩ o1 (by decide) ?_
  exact k2

theorem g_Ta_become_92 {Q : PQ} {h : HP}  {t0 : Nat} (h_t0 : isT t0) {t1 : Nat} (h_t1 : isT t1)
    (o1 : 0 ≤ h t0 2 ∧ 0 ≤ (0 : Int) ∧ 0 ≤ (0 : Int) ∧ (0 : Int) + (h t0 2) ≤ 60 ∧ (0 : Int) + (h t0 2) ≤ 60)
    (k2 : Q none (cpy h (t1 + 5) 0 (t0 + 5) 0 (h t0 2).toNat)) :
    Wp true i_Ta_become 92 [vr t0, vr t1] [] h Q := by
  refine r_aload_n (v := t1) f_105_92 rfl (T_n h_t1) ?_
  refine r_getr (q := (t1 + 5)) f_105_93 (T_k h_t1) (by decide) (Or.inl rfl) rfl ?_
  refine r_iconst f_105_96 (by decide) ?_
  refine r_aload_n (v := t0) f_105_97 rfl (T_n h_t0) ?_
  refine r_getr (q := (t0 + 5)) f_105_98 (T_k h_t0) (by decide) (Or.inl rfl) rfl ?_
  refine r_iconst f_105_101 (by decide) ?_
  refine r_aload_n (v := t0) f_105_102 rfl (T_n h_t0) ?_
  refine r_geti (v := h t0 2) f_105_103 (T_k h_t0) (by decide) rfl ?_
  refine r_copy (na := 60) (nb := 60) f_105_106 ⟨by rw [show zck (t1 + 5) = 20 from (T_5 h_t1).1, show zck (t0 + 5) = 20 from (T_5 h_t0).1], by rw [show zck (t1 + 5) = 20 from (T_5 h_t1).1]; decide⟩ ⟨(T_5 h_t1).2, (T_5 h_t0).2⟩ o1 (by decide) ?_
  exact r_retv f_105_109 rfl k2

theorem c_Fl_become {Q : PQ} {h : HP} {f0 f1 : Nat} (h_f0 : isF f0) (h_f1 : isF f1) (d : f1 + 8 ≤ f0 ∨ f0 + 8 ≤ f1) (k : ∀ h', BecF h h' f0 f1 → Q none h') : Wp true i_Fl_become 0 [vr f0, vr f1] [] h Q := by
  rw [← mvF_0 (h := h) (w := 8) (f0 := f0) (f1 := f1)]
  refine g_Fl_become_0 h_f0 h_f1 ?_
  rw [mvF_hs0 d (by decide)]
  refine g_Fl_become_8 h_f0 h_f1 ?_
  rw [mvF_hs0 d (by decide)]
  refine g_Fl_become_16 h_f0 h_f1 ?_
  rw [mvF_hs0 d (by decide)]
  refine g_Fl_become_24 h_f0 h_f1 ?_
  rw [mvF_hs0 d (by decide)]
  refine g_Fl_become_32 h_f0 h_f1 ?_
  rw [mvF_hs0 d (by decide)]
  refine g_Fl_become_40 h_f0 h_f1 ?_
  rw [mvF_hs0 d (by decide)]
  refine g_Fl_become_48 h_f0 h_f1 ?_
  rw [mvF_hs (m := 1) d (by decide)]
  refine g_Fl_become_60 h_f0 h_f1 ?_
  rw [mvF_hs (m := 1) d (by decide)]
  refine g_Fl_become_72 h_f0 h_f1 ?_
  rw [mvF_cpy (m := 2) d (by decide)]
  refine g_Fl_become_87 h_f0 h_f1 ?_
  rw [mvF_cpy (m := 3) d (by decide)]
  refine g_Fl_become_102 h_f0 h_f1 ?_
  rw [mvF_cpy (m := 4) d (by decide)]
  refine g_Fl_become_117 h_f0 h_f1 ?_
  rw [mvF_cpy (m := 5) d (by decide)]
  refine g_Fl_become_132 h_f0 h_f1 ?_
  rw [mvF_cpy (m := 6) d (by decide)]
  refine g_Fl_become_147 h_f0 h_f1 ?_
  rw [mvF_cpy (m := 7) d (by decide)]
  refine k _ ⟨fun i hi => ?_, fun m i m1 m2 hi => ?_, fun k hk => ?_⟩
  · simp only [mvF, Nat.sub_self, Nat.add_zero]
    refine if_pos ⟨by omega, by omega, ?_⟩
    rcases (show i = 0 ∨ i = 1 ∨ i = 2 ∨ i = 3 ∨ i = 4 ∨ i = 12 by omega) with rfl | rfl | rfl | rfl | rfl | rfl <;> rfl
  · simp only [mvF, Nat.add_sub_cancel_left]
    refine if_pos ⟨by omega, by omega, ?_⟩
    rcases (show m = 1 ∨ m = 2 ∨ m = 3 ∨ m = 4 ∨ m = 5 ∨ m = 6 ∨ m = 7 by omega) with rfl | rfl | rfl | rfl | rfl | rfl | rfl
    · have hi : i < 2 := hi
      rcases (show i = 0 ∨ i = 1 by omega) with rfl | rfl <;> rfl
    · have hi : i < 7 := hi
      simp [hi]
    · have hi : i < 10 := hi
      simp [hi]
    · have hi : i < 10 := hi
      simp [hi]
    · have hi : i < 10 := hi
      simp [hi]
    · have hi : i < 20 := hi
      simp [hi]
    · have hi : i < 10 := hi
      simp [hi]
  · funext i
    simp only [mvF]
    rw [if_neg (by omega)]

theorem c_Ta_become {Q : PQ} {h : HP} {t0 t1 : Nat} (h_t0 : isT t0) (h_t1 : isT t1) (d : t1 + 6 ≤ t0 ∨ t0 + 6 ≤ t1) (o1 : h t1 0 = 0 ∨ h t1 0 = 1) (o2 : 0 ≤ h t1 2 ∧ h t1 2 ≤ 60) (k : ∀ h', BecT h h' t0 t1 → Q none h') : Wp true i_Ta_become 0 [vr t0, vr t1] [] h Q := by
  have sz : ∀ c : Nat → Nat → Bool, c 0 2 = true → mvF h 6 t0 t1 c t0 2 = h t1 2 := by
    intro c hc
    simp only [mvF, Nat.sub_self, Nat.add_zero]
    rw [if_pos ⟨by omega, by omega, hc⟩]
  rw [← mvF_0 (h := h) (w := 6) (f0 := t0) (f1 := t1)]
  refine g_Ta_become_0 h_t0 h_t1 (by rw [mvF_0]; exact o1) ?_
  rw [mvF_hs0 d (by decide)]
  refine g_Ta_become_8 h_t0 h_t1 ?_
  rw [mvF_hs0 d (by decide)]
  refine g_Ta_become_16 h_t0 h_t1 ?_
  rw [mvF_hs0 d (by decide)]
  refine g_Ta_become_24 h_t0 h_t1 (by rw [sz _ rfl]; omega) ?_
  rw [sz _ rfl, mvF_cpy (m := 1) d (by decide)]
  refine g_Ta_become_41 h_t0 h_t1 (by rw [sz _ rfl]; omega) ?_
  rw [sz _ rfl, mvF_cpy (m := 2) d (by decide)]
  refine g_Ta_become_58 h_t0 h_t1 (by rw [sz _ rfl]; omega) ?_
  rw [sz _ rfl, mvF_cpy (m := 3) d (by decide)]
  refine g_Ta_become_75 h_t0 h_t1 (by rw [sz _ rfl]; omega) ?_
  rw [sz _ rfl, mvF_cpy (m := 4) d (by decide)]
  refine g_Ta_become_92 h_t0 h_t1 (by rw [sz _ rfl]; omega) ?_
  rw [sz _ rfl, mvF_cpy (m := 5) d (by decide)]
  refine k _ ⟨fun i hi => ?_, fun m i m1 m2 hi => ?_, fun k hk => ?_⟩
  · simp only [mvF, Nat.sub_self, Nat.add_zero]
    refine if_pos ⟨by omega, by omega, ?_⟩
    rcases (show i = 0 ∨ i = 1 ∨ i = 2 by omega) with rfl | rfl | rfl <;> rfl
  · simp only [mvF, Nat.add_sub_cancel_left]
    refine if_pos ⟨by omega, by omega, ?_⟩
    have hi : i < (h t1 2).toNat := by omega
    rcases (show m = 1 ∨ m = 2 ∨ m = 3 ∨ m = 4 ∨ m = 5 by omega) with rfl | rfl | rfl | rfl | rfl <;> simp [hi]
  · funext i
    simp only [mvF]
    rw [if_neg (by omega)]

theorem g_M_copies_0 {Q : PQ} {h : HP} {x1 : Int} {x2 : Int} 
    (k1 : Wp true i_M_copies 2 [vr 103, vi x1, vi x2, vi 0] [] h Q) :
    Wp true i_M_copies 0 [vr 103, vi x1, vi x2, vr 9999] [] h Q := by
  refine r_iconst f_372_0 (by decide) ?_
  refine r_istore_n (ls' := [vr 103, vi x1, vi x2, vi 0]) f_372_1 (Nat.le_of_ble_eq_true rfl) rfl ?_
  exact k1

theorem g_M_copies_2 {Q : PQ} {h : HP} {x1 : Int} {x2 : Int} {x3 : Int} 
    (k1 : 500 ≤ x3 → Wp true i_M_copies 41 [vr 103, vi x1, vi x2, vi 0] [] h Q)
    (o2 : ¬ 500 ≤ x3 → -2147483648 ≤ 500 * x2 ∧ 500 * x2 ≤ 2147483647)
    (o3 : ¬ 500 ≤ x3 → -2147483648 ≤ (500 * x2) + x3 ∧ (500 * x2) + x3 ≤ 2147483647)
    (o4 : ¬ 500 ≤ x3 → -2147483648 ≤ 500 * x1 ∧ 500 * x1 ≤ 2147483647)
    (o5 : ¬ 500 ≤ x3 → -2147483648 ≤ (500 * x1) + x3 ∧ (500 * x1) + x3 ≤ 2147483647)
    (o6 : ¬ 500 ≤ x3 → 0 ≤ (500 * x1) + x3 ∧ (500 * x1) + x3 < 3000)
    (o7 : ¬ 500 ≤ x3 → 0 ≤ (500 * x2) + x3 ∧ (500 * x2) + x3 < 3000)
    (o8 : ¬ 500 ≤ x3 → -2147483648 ≤ x3 + 1 ∧ x3 + 1 ≤ 2147483647)
    (k9 : ¬ 500 ≤ x3 → Wp true i_M_copies 2 [vr 103, vi x1, vi x2, vi (x3 + 1)] [] (hs h 104 ((500 * x2) + x3).toNat (h 104 ((500 * x1) + x3).toNat)) Q) :
    Wp true i_M_copies 2 [vr 103, vi x1, vi x2, vi x3] [] h Q := by
  refine r_iload_n (v := x3) f_372_2 rfl ?_
  refine r_sipush f_372_3 (by decide) ?_
  refine r_br2 (t := 39) f_372_6 rfl cb_ge (fun c1 => ?_) (fun c1 => ?_)
  · refine r_iconst f_372_39 (by decide) ?_
    refine r_istore_n (ls' := [vr 103, vi x1, vi x2, vi 0]) f_372_40 (Nat.le_of_ble_eq_true rfl) rfl ?_
    exact (k1 c1)
  · refine r_aload_n (v := 103) f_372_9 rfl (by decide) ?_
    refine r_getr (q := 104) f_372_10 rfl (by decide) (Or.inl rfl) rfl ?_
    refine r_sipush f_372_13 (by decide) ?_
    refine r_iload_n (v := x2) f_372_16 rfl ?_
    refine r_imul (u := 500 * x2) f_372_17 rfl (o2 c1) ?_
    refine r_iload_n (v := x3) f_372_18 rfl ?_
    refine r_iadd (u := (500 * x2) + x3) f_372_19 rfl (o3 c1) ?_
    refine r_aload_n (v := 103) f_372_20 rfl (by decide) ?_
    refine r_getr (q := 104) f_372_21 rfl (by decide) (Or.inl rfl) rfl ?_
    refine r_sipush f_372_24 (by decide) ?_
    refine r_iload_n (v := x1) f_372_27 rfl ?_
    refine r_imul (u := 500 * x1) f_372_28 rfl (o4 c1) ?_
    refine r_iload_n (v := x3) f_372_29 rfl ?_
    refine r_iadd (u := (500 * x1) + x3) f_372_30 rfl (o5 c1) ?_
    refine r_iaload (n := 3000) (v := h 104 ((500 * x1) + x3).toNat) f_372_31 ⟨rfl, rfl⟩ (o6 c1) rfl ?_
    refine r_iastore (n := 3000) f_372_32 ⟨rfl, rfl⟩ (o7 c1) ?_
    refine r_iinc (v := x3) (w := x3 + 1) (ls' := [vr 103, vi x1, vi x2, vi (x3 + 1)]) f_372_33 rfl rfl (o8 c1) rfl ?_
    refine r_goto (t := 2) f_372_36 rfl ?_
    exact (k9 c1)

theorem g_M_copies_41 {Q : PQ} {h : HP} {x1 : Int} {x2 : Int} {x3 : Int} 
    (k1 : 10 ≤ x3 → Q none h)
    (o2 : ¬ 10 ≤ x3 → -2147483648 ≤ 10 * x2 ∧ 10 * x2 ≤ 2147483647)
    (o3 : ¬ 10 ≤ x3 → -2147483648 ≤ (10 * x2) + x3 ∧ (10 * x2) + x3 ≤ 2147483647)
    (o4 : ¬ 10 ≤ x3 → -2147483648 ≤ 10 * x1 ∧ 10 * x1 ≤ 2147483647)
    (o5 : ¬ 10 ≤ x3 → -2147483648 ≤ (10 * x1) + x3 ∧ (10 * x1) + x3 ≤ 2147483647)
    (o6 : ¬ 10 ≤ x3 → 0 ≤ (10 * x1) + x3 ∧ (10 * x1) + x3 < 60)
    (o7 : ¬ 10 ≤ x3 → 0 ≤ (10 * x2) + x3 ∧ (10 * x2) + x3 < 60)
    (o8 : ¬ 10 ≤ x3 → -2147483648 ≤ x3 + 1 ∧ x3 + 1 ≤ 2147483647)
    (k9 : ¬ 10 ≤ x3 → Wp true i_M_copies 41 [vr 103, vi x1, vi x2, vi (x3 + 1)] [] (hs h 105 ((10 * x2) + x3).toNat (h 105 ((10 * x1) + x3).toNat)) Q) :
    Wp true i_M_copies 41 [vr 103, vi x1, vi x2, vi x3] [] h Q := by
  refine r_iload_n (v := x3) f_372_41 rfl ?_
  refine r_bipush f_372_42 (by decide) ?_
  refine r_br2 (t := 75) f_372_44 rfl cb_ge (fun c1 => ?_) (fun c1 => ?_)
  · exact r_retv f_372_75 rfl (k1 c1)
  · refine r_aload_n (v := 103) f_372_47 rfl (by decide) ?_
    refine r_getr (q := 105) f_372_48 rfl (by decide) (Or.inl rfl) rfl ?_
    refine r_bipush f_372_51 (by decide) ?_
    refine r_iload_n (v := x2) f_372_53 rfl ?_
    refine r_imul (u := 10 * x2) f_372_54 rfl (o2 c1) ?_
    refine r_iload_n (v := x3) f_372_55 rfl ?_
    refine r_iadd (u := (10 * x2) + x3) f_372_56 rfl (o3 c1) ?_
    refine r_aload_n (v := 103) f_372_57 rfl (by decide) ?_
    refine r_getr (q := 105) f_372_58 rfl (by decide) (Or.inl rfl) rfl ?_
    refine r_bipush f_372_61 (by decide) ?_
    refine r_iload_n (v := x1) f_372_63 rfl ?_
    refine r_imul (u := 10 * x1) f_372_64 rfl (o4 c1) ?_
    refine r_iload_n (v := x3) f_372_65 rfl ?_
    refine r_iadd (u := (10 * x1) + x3) f_372_66 rfl (o5 c1) ?_
    refine r_laload (n := 60) (v := h 105 ((10 * x1) + x3).toNat) f_372_67 ⟨rfl, rfl⟩ (o6 c1) rfl ?_
    refine r_lastore (n := 60) f_372_68 ⟨rfl, rfl⟩ (o7 c1) ?_
    refine r_iinc (v := x3) (w := x3 + 1) (ls' := [vr 103, vi x1, vi x2, vi (x3 + 1)]) f_372_69 rfl rfl (o8 c1) rfl ?_
    refine r_goto (t := 41) f_372_72 rfl ?_
    exact (k9 c1)

theorem c_M_copies {Q : PQ} {h : HP} {x1 x2 : Int} (o1 : 0 ≤ x1 ∧ x1 < 4) (o2 : 0 ≤ x2 ∧ x2 < 4) (hne : x1 ≠ x2) (k : Q none (wr (wr h 104 (500 * x2.toNat) 500 (fun j => h 104 (500 * x1.toNat + j))) 105 (10 * x2.toNat) 10 (fun j => h 105 (10 * x1.toNat + j)))) : Wp true i_M_copies 0 [vr 103, vi x1, vi x2, vr 9999] [] h Q := by
  refine g_M_copies_0 ?_
  have key2 : ∀ (d i : Nat), i + d = 10 → Wp true i_M_copies 41 [vr 103, vi x1, vi x2, vi (i : Int)] [] (wr (wr h 104 (500 * x2.toNat) 500 (fun j => h 104 (500 * x1.toNat + j))) 105 (10 * x2.toNat) i (fun j => h 105 (10 * x1.toNat + j))) Q := by
    intro d
    induction d with
    | zero =>
      intro i e
      have : i = 10 := by omega
      subst this
      refine g_M_copies_41 ?_ ?_ ?_ ?_ ?_ ?_ ?_ ?_ ?_
      · intro c1; (try simp only [Int.toNat_natCast] at c1); first | (exfalso; omega) | exact absurd trivial ‹¬ True› | (exact k)
      · intro c1; (try simp only [Int.toNat_natCast] at c1); first | omega | (exfalso; omega) | exact ⟨by omega, by omega⟩ | (omega) | exact absurd trivial ‹¬ True›
      · intro c1; (try simp only [Int.toNat_natCast] at c1); first | omega | (exfalso; omega) | exact ⟨by omega, by omega⟩ | (omega) | exact absurd trivial ‹¬ True›
      · intro c1; (try simp only [Int.toNat_natCast] at c1); first | omega | (exfalso; omega) | exact ⟨by omega, by omega⟩ | (omega) | exact absurd trivial ‹¬ True›
      · intro c1; (try simp only [Int.toNat_natCast] at c1); first | omega | (exfalso; omega) | exact ⟨by omega, by omega⟩ | (omega) | exact absurd trivial ‹¬ True›
      · intro c1; (try simp only [Int.toNat_natCast] at c1); first | omega | (exfalso; omega) | exact ⟨by omega, by omega⟩ | (omega) | exact absurd trivial ‹¬ True›
      · intro c1; (try simp only [Int.toNat_natCast] at c1); first | omega | (exfalso; omega) | exact ⟨by omega, by omega⟩ | (omega) | exact absurd trivial ‹¬ True›
      · intro c1; (try simp only [Int.toNat_natCast] at c1); first | omega | (exfalso; omega) | exact ⟨by omega, by omega⟩ | (omega) | exact absurd trivial ‹¬ True›
      · intro c1; (try simp only [Int.toNat_natCast] at c1); first | (exfalso; omega) | exact absurd trivial ‹¬ True› | (skip)
    | succ d ih =>
      intro i e
      have e1 : (10 * x2 + (i : Int)).toNat = 10 * x2.toNat + i := by omega
      have e2 : (10 * x1 + (i : Int)).toNat = 10 * x1.toNat + i := by omega
      refine g_M_copies_41 ?_ ?_ ?_ ?_ ?_ ?_ ?_ ?_ ?_
      · intro c1; (try simp only [Int.toNat_natCast] at c1); first | (exfalso; omega) | exact absurd trivial ‹¬ True› | (skip)
      · intro c1; (try simp only [Int.toNat_natCast] at c1); first | omega | (exfalso; omega) | exact ⟨by omega, by omega⟩ | (omega) | exact absurd trivial ‹¬ True›
      · intro c1; (try simp only [Int.toNat_natCast] at c1); first | omega | (exfalso; omega) | exact ⟨by omega, by omega⟩ | (omega) | exact absurd trivial ‹¬ True›
      · intro c1; (try simp only [Int.toNat_natCast] at c1); first | omega | (exfalso; omega) | exact ⟨by omega, by omega⟩ | (omega) | exact absurd trivial ‹¬ True›
      · intro c1; (try simp only [Int.toNat_natCast] at c1); first | omega | (exfalso; omega) | exact ⟨by omega, by omega⟩ | (omega) | exact absurd trivial ‹¬ True›
      · intro c1; (try simp only [Int.toNat_natCast] at c1); first | omega | (exfalso; omega) | exact ⟨by omega, by omega⟩ | (omega) | exact absurd trivial ‹¬ True›
      · intro c1; (try simp only [Int.toNat_natCast] at c1); first | omega | (exfalso; omega) | exact ⟨by omega, by omega⟩ | (omega) | exact absurd trivial ‹¬ True›
      · intro c1; (try simp only [Int.toNat_natCast] at c1); first | omega | (exfalso; omega) | exact ⟨by omega, by omega⟩ | (omega) | exact absurd trivial ‹¬ True›
      · intro c1; (try simp only [Int.toNat_natCast] at c1)
        rw [e1, e2, wr_out (k' := 105) (i := 10 * x1.toNat + i) (by omega), wr_ne (k' := 105) (by decide)]
        rw [wr_s (T := fun j => h 105 (10 * x1.toNat + j))]
        exact ih (i + 1) (by omega)
  have key : ∀ (d i : Nat), i + d = 500 → Wp true i_M_copies 2 [vr 103, vi x1, vi x2, vi (i : Int)] [] (wr h 104 (500 * x2.toNat) i (fun j => h 104 (500 * x1.toNat + j))) Q := by
    intro d
    induction d with
    | zero =>
      intro i e
      have : i = 500 := by omega
      subst this
      have z := key2 10 0 rfl
      rw [wr_0] at z
      refine g_M_copies_2 ?_ ?_ ?_ ?_ ?_ ?_ ?_ ?_ ?_
      · intro c1; (try simp only [Int.toNat_natCast] at c1); first | (exfalso; omega) | exact absurd trivial ‹¬ True› | (exact z)
      · intro c1; (try simp only [Int.toNat_natCast] at c1); first | omega | (exfalso; omega) | exact ⟨by omega, by omega⟩ | (omega) | exact absurd trivial ‹¬ True›
      · intro c1; (try simp only [Int.toNat_natCast] at c1); first | omega | (exfalso; omega) | exact ⟨by omega, by omega⟩ | (omega) | exact absurd trivial ‹¬ True›
      · intro c1; (try simp only [Int.toNat_natCast] at c1); first | omega | (exfalso; omega) | exact ⟨by omega, by omega⟩ | (omega) | exact absurd trivial ‹¬ True›
      · intro c1; (try simp only [Int.toNat_natCast] at c1); first | omega | (exfalso; omega) | exact ⟨by omega, by omega⟩ | (omega) | exact absurd trivial ‹¬ True›
      · intro c1; (try simp only [Int.toNat_natCast] at c1); first | omega | (exfalso; omega) | exact ⟨by omega, by omega⟩ | (omega) | exact absurd trivial ‹¬ True›
      · intro c1; (try simp only [Int.toNat_natCast] at c1); first | omega | (exfalso; omega) | exact ⟨by omega, by omega⟩ | (omega) | exact absurd trivial ‹¬ True›
      · intro c1; (try simp only [Int.toNat_natCast] at c1); first | omega | (exfalso; omega) | exact ⟨by omega, by omega⟩ | (omega) | exact absurd trivial ‹¬ True›
      · intro c1; (try simp only [Int.toNat_natCast] at c1); first | (exfalso; omega) | exact absurd trivial ‹¬ True› | (skip)
    | succ d ih =>
      intro i e
      have e1 : (500 * x2 + (i : Int)).toNat = 500 * x2.toNat + i := by omega
      have e2 : (500 * x1 + (i : Int)).toNat = 500 * x1.toNat + i := by omega
      refine g_M_copies_2 ?_ ?_ ?_ ?_ ?_ ?_ ?_ ?_ ?_
      · intro c1; (try simp only [Int.toNat_natCast] at c1); first | (exfalso; omega) | exact absurd trivial ‹¬ True› | (skip)
      · intro c1; (try simp only [Int.toNat_natCast] at c1); first | omega | (exfalso; omega) | exact ⟨by omega, by omega⟩ | (omega) | exact absurd trivial ‹¬ True›
      · intro c1; (try simp only [Int.toNat_natCast] at c1); first | omega | (exfalso; omega) | exact ⟨by omega, by omega⟩ | (omega) | exact absurd trivial ‹¬ True›
      · intro c1; (try simp only [Int.toNat_natCast] at c1); first | omega | (exfalso; omega) | exact ⟨by omega, by omega⟩ | (omega) | exact absurd trivial ‹¬ True›
      · intro c1; (try simp only [Int.toNat_natCast] at c1); first | omega | (exfalso; omega) | exact ⟨by omega, by omega⟩ | (omega) | exact absurd trivial ‹¬ True›
      · intro c1; (try simp only [Int.toNat_natCast] at c1); first | omega | (exfalso; omega) | exact ⟨by omega, by omega⟩ | (omega) | exact absurd trivial ‹¬ True›
      · intro c1; (try simp only [Int.toNat_natCast] at c1); first | omega | (exfalso; omega) | exact ⟨by omega, by omega⟩ | (omega) | exact absurd trivial ‹¬ True›
      · intro c1; (try simp only [Int.toNat_natCast] at c1); first | omega | (exfalso; omega) | exact ⟨by omega, by omega⟩ | (omega) | exact absurd trivial ‹¬ True›
      · intro c1; (try simp only [Int.toNat_natCast] at c1)
        rw [e1, e2, wr_out (k' := 104) (i := 500 * x1.toNat + i) (by omega)]
        rw [wr_s (T := fun j => h 104 (500 * x1.toNat + j))]
        exact ih (i + 1) (by omega)
  have := key 500 0 rfl
  rw [wr_0] at this
  exact this
def BecG (h h' : HP) (fd fs : Nat) : Prop := (∀ i, i < 5 ∨ i = 12 → h' fd i = h fs i) ∧ (∀ m i, 1 ≤ m → m < 8 → i < (if m = 1 then 2 else if m = 2 then 7 else if m = 6 then 20 else 10) → h' (fd + m) i = h (fs + m) i)
theorem rmC_bec {h h' : HP} {fd fs : Nat} (b : BecG h h' fd fs) (W : WR (rmC h fs)) : rmC h' fd = rmC h fs := by
  have w := WC_0 W
  have b1 := b.2 1
  have b2 := b.2 2
  have b4 := b.2 4
  have b5 := b.2 5
  have b6 := b.2 6
  have b7 := b.2 7
  simp at b1 b2 b4 b5 b6 b7
  funext k i
  simp only [rmC, b.1 1 (by omega), b.1 3 (by omega), b.1 4 (by omega), b.1 12 (by omega), b1 0 (by omega), b1 1 (by omega)]
  by_cases k0 : k = 0
  · simp only [k0, if_true]
    by_cases i4 : i < 4
    · rw [if_pos i4, if_pos i4, b.1 i (by omega)]
    · rw [if_neg i4, if_neg i4]
  · simp only [if_neg k0]
    by_cases k1 : k = 1
    · simp only [k1, if_true]
      by_cases c : (i : Int) < h fs 1
      · rw [if_pos c, if_pos c, b2 i (by omega)]
      · rw [if_neg c, if_neg c]
    · simp only [if_neg k1]
      by_cases c : (i : Int) < h fs 3
      · rw [if_pos c, if_pos c, b4 i (by omega), b5 i (by omega), b6 (2 * i) (by omega), b6 (2 * i + 1) (by omega), b7 i (by omega)]
      · rw [if_neg c, if_neg c]
theorem tkC_bec {h h' : HP} {td ts : Nat} (b : BecT h h' td ts) : tkC h' td = tkC h ts := by
  funext k e
  simp only [tkC, b.1 2 (by omega)]
  by_cases c : (e : Int) < h ts 2
  · rw [if_pos c, if_pos c, b.2.1 1 e (by omega) (by omega) c, b.2.1 2 e (by omega) (by omega) c, b.2.1 3 e (by omega) (by omega) c, b.2.1 4 e (by omega) (by omega) c, b.2.1 5 e (by omega) (by omega) c]
  · rw [if_neg c, if_neg c]
/-- the reference's slot s' holds what slot s held -/
theorem rmM_bec {h h' : HP} {s s' : Nat} (b : ∀ i, i < 500 → h' 104 (s' + i) = h 104 (s + i)) (W : WR (rmM h s)) : rmM h' s' = rmM h s := by
  have w := W.1
  have d0 : rmM h s 0 1 = h 104 (s + 1) := rfl
  have d1 : rmM h s 0 3 = h 104 (s + 2) := rfl
  funext k i
  simp only [rmM, b 3 (by omega), b 2 (by omega), b 1 (by omega)]
  by_cases k0 : k = 0
  · simp only [k0, if_true]
    by_cases i2 : i < 2
    · rw [if_pos i2, if_pos i2, b i (by omega)]
    · rw [if_neg i2, if_neg i2]
      by_cases i7 : i < 7
      · simp only [i7, if_true, b i (by omega)]
      · simp only [i7, if_false]
  · simp only [if_neg k0]
    by_cases k1 : k = 1
    · simp only [k1, if_true]
      by_cases c : (i : Int) < h 104 (s + 1)
      · rw [if_pos c, if_pos c, Nat.add_assoc, Nat.add_assoc, b (8 + i) (by omega)]
      · rw [if_neg c, if_neg c]
    · simp only [if_neg k1]
      by_cases c : (i : Int) < h 104 (s + 2)
      · rw [if_pos c, if_pos c]
        by_cases k8 : k < 8
        · have e1 : s' + 15 + 6 * i + (k - 2) = s' + (15 + 6 * i + (k - 2)) := by omega
          have e2 : s + 15 + 6 * i + (k - 2) = s + (15 + 6 * i + (k - 2)) := by omega
          rw [if_pos k8, if_pos k8, e1, e2, b _ (by omega)]
        · rw [if_neg k8, if_neg k8]
      · rw [if_neg c, if_neg c]
theorem Slot_copy' {n m : Nat} {h h' : HP} {f t s nb f' t' s' nb' : Nat} (hS : Slot n h f t s nb) (hm : n ≤ m) (bf1 : ∀ i, i < 5 ∨ i = 12 → h' f' i = h f i) (bf2 : ∀ m i, 1 ≤ m → m < 8 → i < (if m = 1 then 2 else if m = 2 then 7 else if m = 6 then 20 else 10) → h' (f' + m) i = h (f + m) i) (e' : ∀ i, i < 3 → h' t' i = h t i) (eT : tkC h' t' = tkC h t) (b4 : ∀ i, i < 500 → h' 104 (s' + i) = h 104 (s + i)) (b5 : ∀ i, i < 10 → h' 105 (nb' + i) = h 105 (nb + i)) : Slot m h' f' t' s' nb' := by
  obtain ⟨a1, a2, a3, a4, a5, a6, a7⟩ := hS
  have eC := rmC_bec ⟨bf1, bf2⟩ a2
  have W2 := a2
  rw [a1] at W2
  have eM := rmM_bec b4 W2
  have c1 := bf2 1
  have c3 := bf2 3
  simp at c1 c3
  have w := WC_0 a2
  refine ⟨by rw [eC, eM, a1], by rw [eC]; exact a2, ?_, ?_, ?_, fun i hi => ?_, ?_⟩
  · rw [c1 0 (by omega)]; omega
  · rw [c1 1 (by omega)]; omega
  · rw [bf1 4 (by omega)]; omega
  · rw [bf1 3 (by omega)] at hi
    rw [c3 i (by omega), b5 i (by omega)]
    exact a6 i hi
  · rw [e' 0 (by omega), e' 2 (by omega), b4 7 (by omega), eT, eC]
    rcases a7 with ⟨q1, q2⟩ | ⟨q1, q2, q3, q4⟩
    · exact Or.inl ⟨q1, q2⟩
    · right
      refine ⟨q1, q2, ?_, q4⟩
      rw [q3]
      funext k e
      simp only [tkM, b4 7 (by omega)]
      by_cases c : (e : Int) < h 104 (s + 7) ∧ k < 6
      · have := q4.2.1
        have e1 : s' + 75 + 7 * e + k = s' + (75 + 7 * e + k) := by omega
        have e2 : s + 75 + 7 * e + k = s + (75 + 7 * e + k) := by omega
        rw [if_pos c, if_pos c, e1, e2, b4 _ (by omega)]
      · rw [if_neg c, if_neg c]
theorem isF_m {m : Nat} (hm : m < 3) : isF (40 + 14 * m) := by
  unfold isF; omega
theorem isT_m {m : Nat} (hm : m < 3) : isT (48 + 14 * m) := by
  unfold isT; omega

theorem g_C_mark_0 {Q : PQ} {h : HP}  
    (o1 : h 0 13 < 3 → 0 ≤ h 0 13 ∧ h 0 13 < 3)
    (k2 : h 0 13 < 3 → Wp true i_Fl_become 0 [vr (40 + 14 * (h 0 13).toNat), vr 10] [] h (fun r h' => Wp true i_C_mark 30 [vr 0] (r.toList ++ []) h' Q))
    (o3 : h 0 13 < 3 → zck (40 + 14 * (h 0 13).toNat) = 3)
    (k4 : ¬ h 0 13 < 3 → Q (some (vi (-1))) (hs h 0 0 4)) :
    Wp true i_C_mark 0 [vr 0] [] h Q := by
  refine r_aload_n (v := 0) f_202_0 rfl (by decide) ?_
  refine r_geti (v := h 0 13) f_202_1 rfl (by decide) rfl ?_
  refine r_iconst f_202_4 (by decide) ?_
  refine r_br2 (t := 14) f_202_5 rfl cb_lt (fun c1 => ?_) (fun c1 => ?_)
  · refine r_aload_n (v := 0) f_202_14 rfl (by decide) ?_
    refine r_getr (q := 38) f_202_15 rfl (by decide) (Or.inl rfl) rfl ?_
    refine r_aload_n (v := 0) f_202_18 rfl (by decide) ?_
    refine r_geti (v := h 0 13) f_202_19 rfl (by decide) rfl ?_
    refine r_aaload (n := 3) (q := 40 + 14 * (h 0 13).toNat) f_202_22 ⟨by decide, rfl⟩ (o1 c1) (Or.inl rfl) rfl ?_
    refine r_aload_n (v := 0) f_202_23 rfl (by decide) ?_
    refine r_getr (q := 10) f_202_24 rfl (by decide) (Or.inl rfl) rfl ?_
    exact r_callv (as := [vr (40 + 14 * (h 0 13).toNat), vr 10]) (st' := []) (ls0 := [vr (40 + 14 * (h 0 13).toNat), vr 10]) f_202_27 (by decide) rfl rfl (Nat.le_of_ble_eq_true rfl) (Nat.le_of_ble_eq_true rfl) ⟨_, _, rfl, (o3 c1)⟩ rfl (k2 c1)
  · refine r_aload_n (v := 0) f_202_8 rfl (by decide) ?_
    refine r_iconst f_202_9 (by decide) ?_
    refine r_callv (as := [vr 0, vi 4]) (st' := []) (ls0 := [vr 0, vi 4]) f_202_10 (by decide) rfl rfl (Nat.le_of_ble_eq_true rfl) (Nat.le_of_ble_eq_true rfl) ⟨_, _, rfl, rfl⟩ rfl ?_
    refine c_C_refuse  ?_
    show Wp true i_C_mark 13 [vr 0] [vi (-1)] (hs h 0 0 4) Q
    exact r_reti f_202_13 rfl (k4 c1)

theorem g_C_mark_30 {Q : PQ} {h : HP}  
    (o1 : 0 ≤ h 0 13 ∧ h 0 13 < 3)
    (k2 : Wp true i_Ta_become 0 [vr (48 + 14 * (h 0 13).toNat), vr 26] [] h (fun r h' => Wp true i_C_mark 46 [vr 0] (r.toList ++ []) h' Q))
    (o3 : zck (48 + 14 * (h 0 13).toNat) = 7) :
    Wp true i_C_mark 30 [vr 0] [] h Q := by
  refine r_aload_n (v := 0) f_202_30 rfl (by decide) ?_
  refine r_getr (q := 39) f_202_31 rfl (by decide) (Or.inl rfl) rfl ?_
  refine r_aload_n (v := 0) f_202_34 rfl (by decide) ?_
  refine r_geti (v := h 0 13) f_202_35 rfl (by decide) rfl ?_
  refine r_aaload (n := 3) (q := 48 + 14 * (h 0 13).toNat) f_202_38 ⟨by decide, rfl⟩ o1 (Or.inl rfl) rfl ?_
  refine r_aload_n (v := 0) f_202_39 rfl (by decide) ?_
  refine r_getr (q := 26) f_202_40 rfl (by decide) (Or.inl rfl) rfl ?_
  exact r_callv (as := [vr (48 + 14 * (h 0 13).toNat), vr 26]) (st' := []) (ls0 := [vr (48 + 14 * (h 0 13).toNat), vr 26]) f_202_43 (by decide) rfl rfl (Nat.le_of_ble_eq_true rfl) (Nat.le_of_ble_eq_true rfl) ⟨_, _, rfl, o3⟩ rfl k2

theorem g_C_mark_46 {Q : PQ} {h : HP}  
    (o1 : -2147483648 ≤ (h 0 13) + 1 ∧ (h 0 13) + 1 ≤ 2147483647)
    (k2 : Q (some (vi ((h 0 13) + 1))) (hs (hs h 0 13 ((h 0 13) + 1)) 0 0 0)) :
    Wp true i_C_mark 46 [vr 0] [] h Q := by
  refine r_aload_n (v := 0) f_202_46 rfl (by decide) ?_
  refine r_dupr f_202_47 ?_
  refine r_geti (v := h 0 13) f_202_48 rfl (by decide) rfl ?_
  refine r_iconst f_202_51 (by decide) ?_
  refine r_iadd (u := (h 0 13) + 1) f_202_52 rfl o1 ?_
  refine r_puti f_202_53 rfl (by decide) ?_
  refine r_aload_n (v := 0) f_202_56 rfl (by decide) ?_
  refine r_aload_n (v := 0) f_202_57 rfl (by decide) ?_
  refine r_geti (v := (h 0 13) + 1) f_202_58 rfl (by decide) (by simp [hs]) ?_
  refine r_callv (as := [vr 0, vi ((h 0 13) + 1)]) (st' := []) (ls0 := [vr 0, vi ((h 0 13) + 1)]) f_202_61 (by decide) rfl rfl (Nat.le_of_ble_eq_true rfl) (Nat.le_of_ble_eq_true rfl) ⟨_, _, rfl, rfl⟩ rfl ?_
  refine c_C_answer  ?_
  show Wp true i_C_mark 64 [vr 0] [vi ((h 0 13) + 1)] (hs (hs h 0 13 ((h 0 13) + 1)) 0 0 0) Q
  exact r_reti f_202_64 rfl k2

theorem g_C_undo_0 {Q : PQ} {h : HP}  
    (o1 : 0 < h 0 13 → -2147483648 ≤ (h 0 13) - 1 ∧ (h 0 13) - 1 ≤ 2147483647)
    (o2 : 0 < h 0 13 → 0 ≤ (h 0 13) - 1 ∧ (h 0 13) - 1 < 3)
    (k3 : 0 < h 0 13 → Wp true i_Fl_become 0 [vr 10, vr (40 + 14 * ((h 0 13) - 1).toNat)] [] (hs h 0 13 ((h 0 13) - 1)) (fun r h' => Wp true i_C_undo 40 [vr 0] (r.toList ++ []) h' Q))
    (k4 : ¬ 0 < h 0 13 → Q (some (vi (-1))) (hs h 0 0 6)) :
    Wp true i_C_undo 0 [vr 0] [] h Q := by
  refine r_aload_n (v := 0) f_203_0 rfl (by decide) ?_
  refine r_geti (v := h 0 13) f_203_1 rfl (by decide) rfl ?_
  refine r_br (t := 14) f_203_4 rfl cb_gt (fun c1 => ?_) (fun c1 => ?_)
  · refine r_aload_n (v := 0) f_203_14 rfl (by decide) ?_
    refine r_dupr f_203_15 ?_
    refine r_geti (v := h 0 13) f_203_16 rfl (by decide) rfl ?_
    refine r_iconst f_203_19 (by decide) ?_
    refine r_isub (u := (h 0 13) - 1) f_203_20 rfl (o1 c1) ?_
    refine r_puti f_203_21 rfl (by decide) ?_
    refine r_aload_n (v := 0) f_203_24 rfl (by decide) ?_
    refine r_getr (q := 10) f_203_25 rfl (by decide) (Or.inl rfl) rfl ?_
    refine r_aload_n (v := 0) f_203_28 rfl (by decide) ?_
    refine r_getr (q := 38) f_203_29 rfl (by decide) (Or.inl rfl) rfl ?_
    refine r_aload_n (v := 0) f_203_32 rfl (by decide) ?_
    refine r_geti (v := (h 0 13) - 1) f_203_33 rfl (by decide) (by simp [hs]) ?_
    refine r_aaload (n := 3) (q := 40 + 14 * ((h 0 13) - 1).toNat) f_203_36 ⟨by decide, rfl⟩ (o2 c1) (Or.inl rfl) rfl ?_
    exact r_callv (as := [vr 10, vr (40 + 14 * ((h 0 13) - 1).toNat)]) (st' := []) (ls0 := [vr 10, vr (40 + 14 * ((h 0 13) - 1).toNat)]) f_203_37 (by decide) rfl rfl (Nat.le_of_ble_eq_true rfl) (Nat.le_of_ble_eq_true rfl) ⟨_, _, rfl, rfl⟩ rfl (k3 c1)
  · refine r_aload_n (v := 0) f_203_7 rfl (by decide) ?_
    refine r_bipush f_203_8 (by decide) ?_
    refine r_callv (as := [vr 0, vi 6]) (st' := []) (ls0 := [vr 0, vi 6]) f_203_10 (by decide) rfl rfl (Nat.le_of_ble_eq_true rfl) (Nat.le_of_ble_eq_true rfl) ⟨_, _, rfl, rfl⟩ rfl ?_
    refine c_C_refuse  ?_
    show Wp true i_C_undo 13 [vr 0] [vi (-1)] (hs h 0 0 6) Q
    exact r_reti f_203_13 rfl (k4 c1)

theorem g_C_undo_40 {Q : PQ} {h : HP}  
    (o1 : 0 ≤ h 0 13 ∧ h 0 13 < 3)
    (k2 : Wp true i_Ta_become 0 [vr 26, vr (48 + 14 * (h 0 13).toNat)] [] h (fun r h' => Wp true i_C_undo 56 [vr 0] (r.toList ++ []) h' Q)) :
    Wp true i_C_undo 40 [vr 0] [] h Q := by
  refine r_aload_n (v := 0) f_203_40 rfl (by decide) ?_
  refine r_getr (q := 26) f_203_41 rfl (by decide) (Or.inl rfl) rfl ?_
  refine r_aload_n (v := 0) f_203_44 rfl (by decide) ?_
  refine r_getr (q := 39) f_203_45 rfl (by decide) (Or.inl rfl) rfl ?_
  refine r_aload_n (v := 0) f_203_48 rfl (by decide) ?_
  refine r_geti (v := h 0 13) f_203_49 rfl (by decide) rfl ?_
  refine r_aaload (n := 3) (q := 48 + 14 * (h 0 13).toNat) f_203_52 ⟨by decide, rfl⟩ o1 (Or.inl rfl) rfl ?_
  exact r_callv (as := [vr 26, vr (48 + 14 * (h 0 13).toNat)]) (st' := []) (ls0 := [vr 26, vr (48 + 14 * (h 0 13).toNat)]) f_203_53 (by decide) rfl rfl (Nat.le_of_ble_eq_true rfl) (Nat.le_of_ble_eq_true rfl) ⟨_, _, rfl, rfl⟩ rfl k2

theorem g_C_undo_56 {Q : PQ} {h : HP}  
    (k1 : Q (some (vi (h 0 13))) (hs h 0 0 0)) :
    Wp true i_C_undo 56 [vr 0] [] h Q := by
  refine r_aload_n (v := 0) f_203_56 rfl (by decide) ?_
  refine r_aload_n (v := 0) f_203_57 rfl (by decide) ?_
  refine r_geti (v := h 0 13) f_203_58 rfl (by decide) rfl ?_
  refine r_callv (as := [vr 0, vi (h 0 13)]) (st' := []) (ls0 := [vr 0, vi (h 0 13)]) f_203_61 (by decide) rfl rfl (Nat.le_of_ble_eq_true rfl) (Nat.le_of_ble_eq_true rfl) ⟨_, _, rfl, rfl⟩ rfl ?_
  refine c_C_answer  ?_
  show Wp true i_C_undo 64 [vr 0] [vi (h 0 13)] (hs h 0 0 0) Q
  exact r_reti f_203_64 rfl k1

theorem g_M_mark_0 {Q : PQ} {h : HP}  
    (o1 : ¬ h 103 39 = 3 → -2147483648 ≤ (h 103 39) + 1 ∧ (h 103 39) + 1 ≤ 2147483647)
    (k2 : ¬ h 103 39 = 3 → Wp true i_M_copies 0 [vr 103, vi 0, vi ((h 103 39) + 1), vr 9999] [] (hs h 103 39 ((h 103 39) + 1)) (fun r h' => Wp true i_M_mark 33 [vr 103] (r.toList ++ []) h' Q))
    (k3 : h 103 39 = 3 → Q (some (vi (-1))) (hs h 103 2 4)) :
    Wp true i_M_mark 0 [vr 103] [] h Q := by
  refine r_aload_n (v := 103) f_373_0 rfl (by decide) ?_
  refine r_geti (v := h 103 39) f_373_1 rfl (by decide) rfl ?_
  refine r_iconst f_373_4 (by decide) ?_
  refine r_br2 (t := 14) f_373_5 rfl cb_ne (fun c1 => ?_) (fun c1 => ?_)
  · refine r_aload_n (v := 103) f_373_14 rfl (by decide) ?_
    refine r_dupr f_373_15 ?_
    refine r_geti (v := h 103 39) f_373_16 rfl (by decide) rfl ?_
    refine r_iconst f_373_19 (by decide) ?_
    refine r_iadd (u := (h 103 39) + 1) f_373_20 rfl (o1 c1) ?_
    refine r_puti f_373_21 rfl (by decide) ?_
    refine r_aload_n (v := 103) f_373_24 rfl (by decide) ?_
    refine r_iconst f_373_25 (by decide) ?_
    refine r_aload_n (v := 103) f_373_26 rfl (by decide) ?_
    refine r_geti (v := (h 103 39) + 1) f_373_27 rfl (by decide) (by simp [hs]) ?_
    exact r_callv (as := [vr 103, vi 0, vi ((h 103 39) + 1)]) (st' := []) (ls0 := [vr 103, vi 0, vi ((h 103 39) + 1), vr 9999]) f_373_30 (by decide) rfl rfl (Nat.le_of_ble_eq_true rfl) (Nat.le_of_ble_eq_true rfl) ⟨_, _, rfl, rfl⟩ rfl (k2 c1)
  · have c1 := Decidable.not_not.mp c1
    refine r_aload_n (v := 103) f_373_8 rfl (by decide) ?_
    refine r_iconst f_373_9 (by decide) ?_
    refine r_callv (as := [vr 103, vi 4]) (st' := []) (ls0 := [vr 103, vi 4]) f_373_10 (by decide) rfl rfl (Nat.le_of_ble_eq_true rfl) (Nat.le_of_ble_eq_true rfl) ⟨_, _, rfl, rfl⟩ rfl ?_
    refine c_M_refuse  ?_
    show Wp true i_M_mark 13 [vr 103] [vi (-1)] (hs h 103 2 4) Q
    exact r_reti f_373_13 rfl (k3 c1)

theorem g_M_mark_33 {Q : PQ} {h : HP}  
    (k1 : Q (some (vi (h 103 39))) (hs h 103 2 0)) :
    Wp true i_M_mark 33 [vr 103] [] h Q := by
  refine r_aload_n (v := 103) f_373_33 rfl (by decide) ?_
  refine r_aload_n (v := 103) f_373_34 rfl (by decide) ?_
  refine r_geti (v := h 103 39) f_373_35 rfl (by decide) rfl ?_
  refine r_callv (as := [vr 103, vi (h 103 39)]) (st' := []) (ls0 := [vr 103, vi (h 103 39)]) f_373_38 (by decide) rfl rfl (Nat.le_of_ble_eq_true rfl) (Nat.le_of_ble_eq_true rfl) ⟨_, _, rfl, rfl⟩ rfl ?_
  refine c_M_gives  ?_
  show Wp true i_M_mark 41 [vr 103] [vi (h 103 39)] (hs h 103 2 0) Q
  exact r_reti f_373_41 rfl k1

theorem g_M_undo_0 {Q : PQ} {h : HP}  
    (k1 : ¬ h 103 39 = 0 → Wp true i_M_copies 0 [vr 103, vi (h 103 39), vi 0, vr 9999] [] h (fun r h' => Wp true i_M_undo 23 [vr 103] (r.toList ++ []) h' Q))
    (k2 : h 103 39 = 0 → Q (some (vi (-1))) (hs h 103 2 6)) :
    Wp true i_M_undo 0 [vr 103] [] h Q := by
  refine r_aload_n (v := 103) f_374_0 rfl (by decide) ?_
  refine r_geti (v := h 103 39) f_374_1 rfl (by decide) rfl ?_
  refine r_br (t := 14) f_374_4 rfl cb_ne (fun c1 => ?_) (fun c1 => ?_)
  · refine r_aload_n (v := 103) f_374_14 rfl (by decide) ?_
    refine r_aload_n (v := 103) f_374_15 rfl (by decide) ?_
    refine r_geti (v := h 103 39) f_374_16 rfl (by decide) rfl ?_
    refine r_iconst f_374_19 (by decide) ?_
    exact r_callv (as := [vr 103, vi (h 103 39), vi 0]) (st' := []) (ls0 := [vr 103, vi (h 103 39), vi 0, vr 9999]) f_374_20 (by decide) rfl rfl (Nat.le_of_ble_eq_true rfl) (Nat.le_of_ble_eq_true rfl) ⟨_, _, rfl, rfl⟩ rfl (k1 c1)
  · have c1 := Decidable.not_not.mp c1
    refine r_aload_n (v := 103) f_374_7 rfl (by decide) ?_
    refine r_bipush f_374_8 (by decide) ?_
    refine r_callv (as := [vr 103, vi 6]) (st' := []) (ls0 := [vr 103, vi 6]) f_374_10 (by decide) rfl rfl (Nat.le_of_ble_eq_true rfl) (Nat.le_of_ble_eq_true rfl) ⟨_, _, rfl, rfl⟩ rfl ?_
    refine c_M_refuse  ?_
    show Wp true i_M_undo 13 [vr 103] [vi (-1)] (hs h 103 2 6) Q
    exact r_reti f_374_13 rfl (k2 c1)

theorem g_M_undo_23 {Q : PQ} {h : HP}  
    (o1 : -2147483648 ≤ (h 103 39) - 1 ∧ (h 103 39) - 1 ≤ 2147483647)
    (k2 : Q (some (vi ((h 103 39) - 1))) (hs (hs h 103 39 ((h 103 39) - 1)) 103 2 0)) :
    Wp true i_M_undo 23 [vr 103] [] h Q := by
  refine r_aload_n (v := 103) f_374_23 rfl (by decide) ?_
  refine r_dupr f_374_24 ?_
  refine r_geti (v := h 103 39) f_374_25 rfl (by decide) rfl ?_
  refine r_iconst f_374_28 (by decide) ?_
  refine r_isub (u := (h 103 39) - 1) f_374_29 rfl o1 ?_
  refine r_puti f_374_30 rfl (by decide) ?_
  refine r_aload_n (v := 103) f_374_33 rfl (by decide) ?_
  refine r_aload_n (v := 103) f_374_34 rfl (by decide) ?_
  refine r_geti (v := (h 103 39) - 1) f_374_35 rfl (by decide) (by simp [hs]) ?_
  refine r_callv (as := [vr 103, vi ((h 103 39) - 1)]) (st' := []) (ls0 := [vr 103, vi ((h 103 39) - 1)]) f_374_38 (by decide) rfl rfl (Nat.le_of_ble_eq_true rfl) (Nat.le_of_ble_eq_true rfl) ⟨_, _, rfl, rfl⟩ rfl ?_
  refine c_M_gives  ?_
  show Wp true i_M_undo 41 [vr 103] [vi ((h 103 39) - 1)] (hs (hs h 103 39 ((h 103 39) - 1)) 103 2 0) Q
  exact r_reti f_374_41 rfl k2

/-- the TALKS' own cells, at all times -/
theorem tk_ok {n : Nat} {h : HP} {f t s nb : Nat} (hS : Slot n h f t s nb) : (h t 0 = 0 ∨ h t 0 = 1) ∧ (0 ≤ h t 2 ∧ h t 2 ≤ 60) := by
  rcases hS.2.2.2.2.2.2 with ⟨a, -, b⟩ | ⟨a, -, -, b⟩
  · exact ⟨Or.inl a, b⟩
  · exact ⟨Or.inr a, b.1, b.2.1⟩
theorem A_mark {n : Nat} {h : HP} (hR : Rel n h) : Agree n h i_C_mark i_M_mark [vr 0] [vr 103] := by
  obtain ⟨b0, b1, b2, b3, b4, b5, b6, b7⟩ := hR
  have hR : Rel n h := ⟨b0, b1, b2, b3, b4, b5, b6, b7⟩
  obtain ⟨d1, d2, d3⟩ := b6
  by_cases c : h 0 13 < 3
  · obtain ⟨m, hm⟩ : ∃ m : Nat, h 0 13 = m := ⟨(h 0 13).toNat, by omega⟩
    have m3 : m < 3 := by omega
    have em : (h 0 13).toNat = m := by omega
    have tk := tk_ok b5
    refine ⟨vi ((m : Int) + 1), fun h1 => ∃ ha hb, BecF h ha (40 + 14 * m) 10 ∧ BecT ha hb (48 + 14 * m) 26 ∧ h1 = hs (hs hb 0 13 ((m : Int) + 1)) 0 0 0, fun h1 e => ?_, fun Q k => ?_, fun h1 Q e k => ?_⟩
    · obtain ⟨ha, hb, p1, p2, rfl⟩ := e
      refine ⟨?_, ?_⟩
      · rw [hs_ne (by decide), hs_ne (by decide), p2.2.2 _ (by omega), p1.2.2 _ (by omega)]
      · rw [hs_ne (by decide), hs_ne (by decide), p2.2.2 _ (by omega), p1.2.2 _ (by omega)]
    · refine g_C_mark_0 (fun _ => by omega) (fun _ => ?_) (fun _ => by rw [em]; exact F_k (isF_m m3)) (fun q => absurd c q)
      rw [em]
      refine c_Fl_become (isF_m m3) isF_10 (by omega) (fun ha p1 => ?_)
      have e13 : ha 0 13 = m := by rw [p1.2.2 0 (by omega)]; exact hm
      have e26 : ha 26 = h 26 := p1.2.2 26 (by omega)
      refine g_C_mark_30 (by omega) ?_ (by rw [e13, Int.toNat_natCast]; exact T_k (isT_m m3))
      rw [e13, Int.toNat_natCast]
      refine c_Ta_become (isT_m m3) isT_26 (by omega) (by rw [e26]; exact tk.1) (by rw [e26]; exact tk.2) (fun hb p2 => ?_)
      have f13 : hb 0 13 = m := by rw [p2.2.2 0 (by omega)]; exact e13
      refine g_C_mark_46 (by omega) ?_
      rw [f13]
      exact k _ ⟨ha, hb, p1, p2, rfl⟩
    · obtain ⟨ha, hb, p1, p2, rfl⟩ := e
      have gk : ∀ k, k ≠ 0 → ¬ (40 + 14 * m ≤ k ∧ k < 40 + 14 * m + 14) → hs (hs hb 0 13 ((m : Int) + 1)) 0 0 0 k = h k := fun k k1 k2 => by
        rw [hs_ne k1, hs_ne k1, p2.2.2 k (by omega), p1.2.2 k (by omega)]
      have e39 : hs (hs hb 0 13 ((m : Int) + 1)) 0 0 0 103 39 = m := by rw [gk 103 (by decide) (by omega), ← d1]; exact hm
      refine g_M_mark_0 (fun _ => by omega) (fun _ => ?_) (fun q => by omega)
      rw [e39]
      refine c_M_copies (by omega) (by omega) (by omega) ?_
      refine g_M_mark_33 ?_
      have e1 : ((m : Int) + 1).toNat = m + 1 := by omega
      simp only [e1, Int.toNat_zero, Nat.mul_zero, Nat.zero_add]
      obtain ⟨h1, eh1⟩ : ∃ h1, h1 = hs (hs hb 0 13 ((m : Int) + 1)) 0 0 0 := ⟨_, rfl⟩
      rw [← eh1] at gk ⊢
      obtain ⟨h2, eh2⟩ : ∃ h2, h2 = wr (wr (hs h1 103 39 ((m : Int) + 1)) 104 (500 * (m + 1)) 500 (fun j => hs h1 103 39 ((m : Int) + 1) 104 j)) 105 (10 * (m + 1)) 10 (fun j => hs h1 103 39 ((m : Int) + 1) 105 j) := ⟨_, rfl⟩
      rw [← eh2]
      have hk : ∀ k, k ≠ 104 → k ≠ 105 → k ≠ 103 → h2 k = h1 k := fun k k1 k2 k3 => by rw [eh2, wr_ne k2, wr_ne k1, hs_ne k3]
      have h103 : ∀ i, i ≠ 39 → h2 103 i = h 103 i := fun i hi => by rw [eh2, wr_ne (by decide), wr_ne (by decide), hs_o (Or.inr hi), gk 103 (by decide) (by omega)]
      have h39 : h2 103 39 = (m : Int) + 1 := by rw [eh2, wr_ne (by decide), wr_ne (by decide)]; exact hs_s
      have h104 : ∀ i, ¬ (500 * (m + 1) ≤ i ∧ i < 500 * (m + 1) + 500) → h2 104 i = h 104 i := fun i hi => by
        rw [eh2, wr_ne (by decide), wr_out (by omega), hs_ne (by decide), gk 104 (by decide) (by omega)]
      have h104' : ∀ i, i < 500 → h2 104 (500 * (m + 1) + i) = h 104 i := fun i hi => by
        rw [eh2, wr_ne (by decide), wr_in (by omega), hs_ne (by decide), gk 104 (by decide) (by omega), Nat.add_sub_cancel_left]
      have h105 : ∀ i, ¬ (10 * (m + 1) ≤ i ∧ i < 10 * (m + 1) + 10) → h2 105 i = h 105 i := fun i hi => by
        rw [eh2, wr_out (by omega), wr_ne (by decide), hs_ne (by decide), gk 105 (by decide) (by omega)]
      have h105' : ∀ i, i < 10 → h2 105 (10 * (m + 1) + i) = h 105 i := fun i hi => by
        rw [eh2, wr_in (by omega), hs_ne (by decide), gk 105 (by decide) (by omega), Nat.add_sub_cancel_left]
      rw [h39]
      have s103 : ∀ i, i ≠ 2 → hs h2 103 2 0 103 i = h2 103 i := fun i hi => hs_o (Or.inr hi)
      have sk : ∀ k, k ≠ 103 → hs h2 103 2 0 k = h2 k := fun k hk => hs_ne hk
      have c0 : ∀ i, i ≠ 0 → i ≠ 13 → h1 0 i = h 0 i := fun i i1 i2 => by
        rw [eh1, hs_o (Or.inr i1), hs_o (Or.inr i2), p2.2.2 0 (by omega), p1.2.2 0 (by omega)]
      have fk : ∀ k, k < 103 → ¬ (40 + 14 * m ≤ k ∧ k < 40 + 14 * m + 14) → k ≠ 0 → hs h2 103 2 0 k = h k := fun k k1 k2 k3 => by
        rw [sk k (by omega), hk k (by omega) (by omega) (by omega), gk k k3 k2]
      have q0 : hs h2 103 2 0 0 = h1 0 := by rw [sk 0 (by decide), hk 0 (by decide) (by decide) (by decide)]
      refine k _ ⟨?_, ?_, ?_, ?_, ?_, ?_, ?_, ?_⟩ ?_ ?_
      · rw [q0, eh1]; exact hs_s.trans hs_s.symm
      · rw [q0, c0 1 (by decide) (by decide), s103 3 (by decide), h103 3 (by decide)]; exact b1
      · rw [q0, c0 2 (by decide) (by decide), s103 4 (by decide), h103 4 (by decide)]; exact b2
      · refine RTray_c b3 (fun k hk' => ?_)
        by_cases z : k < 103
        · exact fk k z (by omega) (by omega)
        · rw [sk k (by omega), hk k (by omega) (by omega) (by omega), gk k (by omega) (by omega)]
      · refine RTape_c b4 (fun k hk' => ?_) (fun i hi => by rw [s103 i (by omega), h103 i (by omega)])
        by_cases z : k < 103
        · exact fk k z (by omega) (by omega)
        · rw [sk k (by omega), hk k (by omega) (by omega) (by omega), gk k (by omega) (by omega)]
      · exact Slot_off b5 (by omega) (fun k k1 k2 => fk k (by omega) (by omega) (by omega)) (fun k k1 k2 => fk k (by omega) (by omega) (by omega)) (fun i i1 i2 => by rw [sk 104 (by decide), h104 i (by omega)]) (fun i i1 i2 => by rw [sk 105 (by decide), h105 i (by omega)])
      · have q13 : hs h2 103 2 0 0 13 = (m : Int) + 1 := by
          rw [q0, eh1, hs_o (by decide)]; exact hs_s
        refine ⟨by rw [q13, s103 39 (by decide), h39], by rw [q13]; omega, fun j hj => ?_⟩
        rw [q13] at hj
        by_cases ej : j = m
        · subst ej
          have bF : BecF h (hs h2 103 2 0) (40 + 14 * j) 10 ∨ True := Or.inr trivial
          have fl : ∀ k, 40 + 14 * j ≤ k → k < 40 + 14 * j + 8 → hs h2 103 2 0 k = ha k := fun k k1 k2 => by
            rw [sk k (by omega), hk k (by omega) (by omega) (by omega), eh1, hs_ne (by omega), hs_ne (by omega), p2.2.2 k (by omega)]
          have tl : ∀ k, 48 + 14 * j ≤ k → k < 48 + 14 * j + 6 → hs h2 103 2 0 k = hb k := fun k k1 k2 => by
            rw [sk k (by omega), hk k (by omega) (by omega) (by omega), eh1, hs_ne (by omega), hs_ne (by omega)]
          have a26 : ∀ k, 26 ≤ k → k < 32 → ha k = h k := fun k k1 k2 => p1.2.2 k (by omega)
          refine Slot_copy' b5 (by omega) (fun i hi => by rw [fl _ (by omega) (by omega), p1.1 i hi]) (fun a i a1 a2 hi => by rw [fl _ (by omega) (by omega), p1.2.1 a i a1 a2 hi]) (fun i hi => by rw [tl _ (by omega) (by omega), p2.1 i hi, a26 26 (by omega) (by omega)]) ?_ (fun i hi => by rw [sk 104 (by decide), h104' i hi, Nat.zero_add]) (fun i hi => by rw [sk 105 (by decide), h105' i hi, Nat.zero_add])
          have t1 := tkC_bec p2
          rw [← tkC_congr (t := 26) (h := h) (h' := ha) (fun k k1 k2 => a26 k k1 (by omega)), ← t1]
          exact tkC_congr tl
        · exact Slot_off (d3 j (by omega)) (by omega) (fun k k1 k2 => fk k (by omega) (by omega) (by omega)) (fun k k1 k2 => fk k (by omega) (by omega) (by omega)) (fun i i1 i2 => by rw [sk 104 (by decide), h104 i (by omega)]) (fun i i1 i2 => by rw [sk 105 (by decide), h105 i (by omega)])
      · refine RLived_c b7 (by rw [fk 99 (by decide) (by omega) (by decide)]) (by rw [s103 38 (by decide), h103 38 (by decide)]) (fun k hk' => ?_)
        by_cases z : k < 103
        · exact fk k z (by omega) (by omega)
        · rw [sk k (by omega), hk k (by omega) (by omega) (by omega), gk k (by omega) (by omega)]
      · rw [sk 1000 (by decide), hk 1000 (by decide) (by decide) (by decide), gk 1000 (by decide) (by omega)]
      · rw [sk 1001 (by decide), hk 1001 (by decide) (by decide) (by decide), gk 1001 (by decide) (by omega)]
  · refine ag_act0 (v := vi (-1)) (st := 4) hR (fun Q k => ?_) (fun g Q e gk k => ?_)
    · exact g_C_mark_0 (fun q => absurd q c) (fun q => absurd q c) (fun q => absurd q c) (fun _ => k)
    · have e39 : g 103 39 = 3 := by rw [gk 103 (by decide)]; omega
      exact g_M_mark_0 (fun q => absurd e39 q) (fun q => absurd e39 q) (fun _ => k)
theorem A_undo {n : Nat} {h : HP} (hR : Rel n h) : Agree n h i_C_undo i_M_undo [vr 0] [vr 103] := by
  obtain ⟨b0, b1, b2, b3, b4, b5, b6, b7⟩ := hR
  have hR : Rel n h := ⟨b0, b1, b2, b3, b4, b5, b6, b7⟩
  obtain ⟨d1, d2, d3⟩ := b6
  by_cases c : 0 < h 0 13
  · obtain ⟨m, hm⟩ : ∃ m : Nat, h 0 13 = (m : Int) + 1 := ⟨(h 0 13 - 1).toNat, by omega⟩
    have m3 : m < 3 := by omega
    have em : (h 0 13 - 1).toNat = m := by omega
    have ei : h 0 13 - 1 = m := by omega
    have S := d3 m (by omega)
    have tk := tk_ok S
    refine ⟨vi (m : Int), fun h1 => ∃ ha hb, BecF (hs h 0 13 (m : Int)) ha 10 (40 + 14 * m) ∧ BecT ha hb 26 (48 + 14 * m) ∧ h1 = hs hb 0 0 0, fun h1 e => ?_, fun Q k => ?_, fun h1 Q e k => ?_⟩
    · obtain ⟨ha, hb, p1, p2, rfl⟩ := e
      refine ⟨?_, ?_⟩
      · rw [hs_ne (by decide), p2.2.2 _ (by omega), p1.2.2 _ (by omega), hs_ne (by decide)]
      · rw [hs_ne (by decide), p2.2.2 _ (by omega), p1.2.2 _ (by omega), hs_ne (by decide)]
    · refine g_C_undo_0 (fun _ => by omega) (fun _ => by omega) (fun _ => ?_) (fun q => absurd c q)
      rw [em, ei]
      refine c_Fl_become isF_10 (isF_m m3) (by omega) (fun ha p1 => ?_)
      have e13 : ha 0 13 = m := by rw [p1.2.2 0 (by omega)]; exact hs_s
      have e26 : ha (48 + 14 * m) = h (48 + 14 * m) := by rw [p1.2.2 _ (by omega), hs_ne (by omega)]
      refine g_C_undo_40 (by omega) ?_
      rw [e13, Int.toNat_natCast]
      refine c_Ta_become isT_26 (isT_m m3) (by omega) (by rw [e26]; exact tk.1) (by rw [e26]; exact tk.2) (fun hb p2 => ?_)
      have f13 : hb 0 13 = m := by rw [p2.2.2 0 (by omega)]; exact e13
      refine g_C_undo_56 ?_
      rw [f13]
      exact k _ ⟨ha, hb, p1, p2, rfl⟩
    · obtain ⟨ha, hb, p1, p2, rfl⟩ := e
      have gk : ∀ k, k ≠ 0 → ¬ (10 ≤ k ∧ k < 18) → ¬ (26 ≤ k ∧ k < 32) → hs hb 0 0 0 k = h k := fun k k1 k2 k3 => by
        rw [hs_ne k1, p2.2.2 k (by omega), p1.2.2 k (by omega), hs_ne k1]
      have e39 : hs hb 0 0 0 103 39 = (m : Int) + 1 := by rw [gk 103 (by decide) (by decide) (by decide), ← d1]; exact hm
      refine g_M_undo_0 (fun _ => ?_) (fun q => by omega)
      rw [e39]
      refine c_M_copies (by omega) (by omega) (by omega) ?_
      have e1 : ((m : Int) + 1).toNat = m + 1 := by omega
      simp only [e1, Int.toNat_zero, Nat.mul_zero]
      obtain ⟨h1, eh1⟩ : ∃ h1, h1 = hs hb 0 0 0 := ⟨_, rfl⟩
      rw [← eh1] at gk e39 ⊢
      obtain ⟨h2, eh2⟩ : ∃ h2, h2 = wr (wr h1 104 0 500 (fun j => h1 104 (500 * (m + 1) + j))) 105 0 10 (fun j => h1 105 (10 * (m + 1) + j)) := ⟨_, rfl⟩
      rw [← eh2]
      have hk : ∀ k, k ≠ 104 → k ≠ 105 → h2 k = h1 k := fun k k1 k2 => by rw [eh2, wr_ne k2, wr_ne k1]
      have h39 : h2 103 39 = (m : Int) + 1 := by rw [hk 103 (by decide) (by decide)]; exact e39
      refine g_M_undo_23 (by omega) ?_
      rw [h39]
      have em1 : (m : Int) + 1 - 1 = m := by omega
      rw [em1]
      have h104 : ∀ i, 500 ≤ i → h2 104 i = h 104 i := fun i hi => by
        rw [eh2, wr_ne (by decide), wr_out (by omega), gk 104 (by decide) (by decide) (by decide)]
      have h104' : ∀ i, i < 500 → h2 104 (0 + i) = h 104 (500 * (m + 1) + i) := fun i hi => by
        rw [eh2, wr_ne (by decide), wr_in (by omega), gk 104 (by decide) (by decide) (by decide), Nat.zero_add, Nat.sub_zero]
      have h105 : ∀ i, 10 ≤ i → h2 105 i = h 105 i := fun i hi => by
        rw [eh2, wr_out (by omega), wr_ne (by decide), gk 105 (by decide) (by decide) (by decide)]
      have h105' : ∀ i, i < 10 → h2 105 (0 + i) = h 105 (10 * (m + 1) + i) := fun i hi => by
        rw [eh2, wr_in (by omega), gk 105 (by decide) (by decide) (by decide), Nat.zero_add, Nat.sub_zero]
      have h103 : ∀ i, h2 103 i = h 103 i := fun i => by rw [hk 103 (by decide) (by decide), gk 103 (by decide) (by decide) (by decide)]
      have s103 : ∀ i, i ≠ 2 → i ≠ 39 → hs (hs h2 103 39 (m : Int)) 103 2 0 103 i = h 103 i := fun i i1 i2 => by rw [hs_o (Or.inr i1), hs_o (Or.inr i2), h103]
      have s39 : hs (hs h2 103 39 (m : Int)) 103 2 0 103 39 = m := by rw [hs_o (by decide)]; exact hs_s
      have sk : ∀ k, k ≠ 103 → hs (hs h2 103 39 (m : Int)) 103 2 0 k = h2 k := fun k hk => by rw [hs_ne hk, hs_ne hk]
      have c0 : ∀ i, i ≠ 0 → i ≠ 13 → h1 0 i = h 0 i := fun i i1 i2 => by
        rw [eh1, hs_o (Or.inr i1), p2.2.2 0 (by omega), p1.2.2 0 (by omega), hs_o (Or.inr i2)]
      have fk : ∀ k, k < 103 → ¬ (10 ≤ k ∧ k < 18) → ¬ (26 ≤ k ∧ k < 32) → k ≠ 0 → hs (hs h2 103 39 (m : Int)) 103 2 0 k = h k := fun k k1 k2 k3 k4 => by
        rw [sk k (by omega), hk k (by omega) (by omega), gk k k4 k2 k3]
      have q0 : hs (hs h2 103 39 (m : Int)) 103 2 0 0 = h1 0 := by rw [sk 0 (by decide), hk 0 (by decide) (by decide)]
      refine k _ ⟨?_, ?_, ?_, ?_, ?_, ?_, ?_, ?_⟩ ?_ ?_
      · rw [q0, eh1]; exact hs_s.trans hs_s.symm
      · rw [q0, c0 1 (by decide) (by decide), s103 3 (by decide) (by decide)]; exact b1
      · rw [q0, c0 2 (by decide) (by decide), s103 4 (by decide) (by decide)]; exact b2
      · refine RTray_c b3 (fun k hk' => ?_)
        by_cases z : k < 103
        · exact fk k z (by omega) (by omega) (by omega)
        · rw [sk k (by omega), hk k (by omega) (by omega), gk k (by omega) (by omega) (by omega)]
      · refine RTape_c b4 (fun k hk' => ?_) (fun i hi => s103 i (by omega) (by omega))
        by_cases z : k < 103
        · exact fk k z (by omega) (by omega) (by omega)
        · rw [sk k (by omega), hk k (by omega) (by omega), gk k (by omega) (by omega) (by omega)]
      · have fl : ∀ k, 10 ≤ k → k < 18 → hs (hs h2 103 39 (m : Int)) 103 2 0 k = ha k := fun k k1 k2 => by
          rw [sk k (by omega), hk k (by omega) (by omega), eh1, hs_ne (by omega), p2.2.2 k (by omega)]
        have tl : ∀ k, 26 ≤ k → k < 32 → hs (hs h2 103 39 (m : Int)) 103 2 0 k = hb k := fun k k1 k2 => by
          rw [sk k (by omega), hk k (by omega) (by omega), eh1, hs_ne (by omega)]
        have aT : ∀ k, 48 + 14 * m ≤ k → k < 48 + 14 * m + 6 → ha k = h k := fun k k1 k2 => by rw [p1.2.2 k (by omega), hs_ne (by omega)]
        have aF : ∀ k, 40 + 14 * m ≤ k → hs h 0 13 (m : Int) k = h k := fun k k1 => hs_ne (by omega)
        refine Slot_copy' S (by omega) (fun i hi => by rw [fl _ (by omega) (by omega), p1.1 i hi, aF _ (by omega)]) (fun a i a1 a2 hi => by rw [fl _ (by omega) (by omega), p1.2.1 a i a1 a2 hi, aF _ (by omega)]) (fun i hi => by rw [tl _ (by omega) (by omega), p2.1 i hi, aT _ (by omega) (by omega)]) ?_ (fun i hi => by rw [sk 104 (by decide), h104' i hi]) (fun i hi => by rw [sk 105 (by decide), h105' i hi])
        have t1 := tkC_bec p2
        rw [← tkC_congr (t := 48 + 14 * m) (h := h) (h' := ha) aT, ← t1]
        exact tkC_congr (fun k k1 k2 => tl k k1 (by omega))
      · have q13 : hs (hs h2 103 39 (m : Int)) 103 2 0 0 13 = m := by
          rw [q0, eh1, hs_o (by decide), p2.2.2 0 (by omega), p1.2.2 0 (by omega)]; exact hs_s
        refine ⟨by rw [q13, s39], by rw [q13]; omega, fun j hj => ?_⟩
        rw [q13] at hj
        exact Slot_off (d3 j (by omega)) (by omega) (fun k k1 k2 => fk k (by omega) (by omega) (by omega) (by omega)) (fun k k1 k2 => fk k (by omega) (by omega) (by omega) (by omega)) (fun i i1 i2 => by rw [sk 104 (by decide), h104 i (by omega)]) (fun i i1 i2 => by rw [sk 105 (by decide), h105 i (by omega)])
      · refine RLived_c b7 (by rw [fk 99 (by decide) (by omega) (by omega) (by decide)]) (s103 38 (by decide) (by decide)) (fun k hk' => ?_)
        by_cases z : k < 103
        · exact fk k z (by omega) (by omega) (by omega)
        · rw [sk k (by omega), hk k (by omega) (by omega), gk k (by omega) (by omega) (by omega)]
      · rw [sk 1000 (by decide), hk 1000 (by decide) (by decide), gk 1000 (by decide) (by decide) (by decide)]
      · rw [sk 1001 (by decide), hk 1001 (by decide) (by decide), gk 1001 (by decide) (by decide) (by decide)]
  · refine ag_act0 (v := vi (-1)) (st := 6) hR (fun Q k => ?_) (fun g Q e gk k => ?_)
    · exact g_C_undo_0 (fun q => absurd q c) (fun q => absurd q c) (fun q => absurd q c) (fun _ => k)
    · have e39 : g 103 39 = 0 := by rw [gk 103 (by decide)]; omega
      exact g_M_undo_0 (fun q => absurd e39 q) (fun _ => k)
