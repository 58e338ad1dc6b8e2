/-! ===== the cells of the heap, as the numbers tell them ===== -/
def zA (b : Bool) (h : HP) : Nat := if b = true then zK else zal h
def vl (ρ : Nat → Nat) (v : AV) : Value := match v with
  | .inl z => .int (Int32.ofInt z)
  | .inr (.inl z) => .long (Int64.ofInt z)
  | .inr (.inr k) => .ref (ρ k)
def okv (a : Nat) (v : AV) : Prop := match v with
  | .inl z => in32 z
  | .inr (.inl z) => in64 z
  | .inr (.inr k) => k < a ∨ k = 1000 ∨ k = 2000 ∨ k = 2001
def wfv (ρ : Nat → Nat) (b : Bool) (hk : Nat → Int) (k j : Nat) : Value :=
  if zfk (64 * zck k + j) = 0 ∨ zfk (64 * zck k + j) = 3 then .int (Int32.ofInt (hk j))
  else if zfk (64 * zck k + j) = 1 then .long (Int64.ofInt (hk j))
  else if b = true ∨ hk j = 1 then .ref (ρ (k + zfo (64 * zck k + j))) else .null
def wra (ρ : Nat → Nat) (b : Bool) (hk : Nat → Int) (k : Nat) : Nat → Option Nat := fun j => if b = true ∨ hk j = 1 then some (ρ (zrb k + 14 * j)) else none
def wdc (ρ : Nat → Nat) (cA : Nat → ClassId) (b : Bool) (hk : Nat → Int) (k : Nat) : va_E :=
  if zck k < 20 then .inr (zck k, (List.range (zfN (zck k))).map (wfv ρ b hk k))
  else .inl (cA (zck k), zcn k,
    if zck k = 20 ∨ zck k = 22 then .inl (fun j => Int32.ofInt (hk j))
    else if zck k = 21 then .inr (.inl (fun j => Int64.ofInt (hk j)))
    else .inr (.inr (.inr (.inr (wra ρ b hk k)))))
def wd (ρ : Nat → Nat) (cA : Nat → ClassId) (b : Bool) (h : HP) : va_W := (List.range (zA b h)).map (fun k => (ρ k, wdc ρ cA b (h k) k))
def zkd (k j : Nat) : Nat := if zck k < 20 then zfk (64 * zck k + j) else if zck k = 20 then 0 else if zck k = 21 then 1 else if zck k = 22 then 2 else 4
def rgk (t : Nat) (z : Int) : Prop := if t = 0 then in32 z else if t = 1 then in64 z else if t = 2 then (-128 ≤ z ∧ z ≤ 127) else if t = 3 then (z = 0 ∨ z = 1) else True
def okh (b : Bool) (h : HP) : Prop :=
  zA b h ≤ zK ∧ (∀ k, k < zA b h → ∀ j, rgk (zkd k j) (h k j)) ∧
  (b = false → (∀ k, zA b h ≤ k → k < zK → ∀ j, h k j = 0) ∧ ∀ k, k < zA b h → ∀ j, h k j = 1 → (zck k < 20 → zfk (64 * zck k + j) = 4 → k + zfo (64 * zck k + j) < zA b h) ∧ (zck k = 23 ∨ zck k = 24 → zrb k + 14 * j < zA b h))
def ztys (cA : Nat → ClassId) : List (ClassId × FieldType) := [(cA 20, .int), (cA 21, .long), (cA 22, .byte), (cA 23, .object "ChalkRoom$Floor"), (cA 24, .object "ChalkRoom$Talks")]
theorem wd_at {ρ : Nat → Nat} {cA : Nat → ClassId} {b : Bool} {h : HP} {k : Nat} (hk : k < zA b h) : (wd ρ cA b h)[k]? = some (ρ k, wdc ρ cA b (h k) k) := by simp [wd, hk]
theorem zA_hs {b : Bool} {h : HP} {k i : Nat} {v : Int} (hk : k ≠ 1002) : zA b (hs h k i v) = zA b h := by simp [zA, zal, hs, Ne.symm hk]
theorem hs_ne {h : HP} {k i k' : Nat} {v : Int} (hk : k' ≠ k) : hs h k i v k' = h k' := by funext j; simp [hs, hk]
theorem hs_self {h : HP} {k i : Nat} {v : Int} : hs h k i v k = fun j => if j = i then v else h k j := by funext j; simp [hs]
theorem wd_upd {ρ : Nat → Nat} {cA : Nat → ClassId} {b : Bool} {h h' : HP} {k : Nat} (hz : zA b h' = zA b h) (ho : ∀ k', k' ≠ k → h' k' = h k') : (wd ρ cA b h).set k (ρ k, wdc ρ cA b (h' k) k) = wd ρ cA b h' := by
  apply List.ext_getElem?
  intro j
  rw [List.getElem?_set]
  by_cases e : k = j
  · subst e
    by_cases hl : k < zA b h
    · rw [show (wd ρ cA b h')[k]? = _ from wd_at (by omega)]
      simp [wd, hl]
    · simp [wd, hz, hl]
  · rw [if_neg e]
    by_cases hl : j < zA b h
    · rw [show (wd ρ cA b h)[j]? = _ from wd_at hl, show (wd ρ cA b h')[j]? = _ from wd_at (by omega), ho j (fun q => e q.symm)]
    · simp [wd, hz, hl]
theorem zck_lt : ∀ k, zck k ≠ 99 → k < 123 := by
  intro k hk
  apply Decidable.byContradiction
  intro hn
  apply hk
  have : ¬ k < 123 := hn
  unfold zck
  repeat (first | rfl | rw [if_neg (by omega)])
theorem zK_eq : zK = 123 := rfl
/-- of a script, its length and numbers -/
def HK (D : va_G) (cA : Nat → ClassId) (A : Nat → Prop) (sp : Nat × Nat × Nat) (Ls : Nat) (xs : Nat → Int32) (b : Bool) (ρ : Nat → Nat) (h : HP) (H : Heap) : Prop :=
  va_P D vwCl (wd ρ cA b h) H ∧ va_D A (wd ρ cA b h) ∧ okh b h ∧ ρ 1000 = sp.1 ∧ ρ 2000 = sp.2.1 ∧ ρ 2001 = sp.2.2 ∧ h 1001 0 = (Ls : Int) ∧ (∀ j, j < Ls → h 1000 j = (xs j).toInt) ∧ Ls ≤ 3072
def ZLen : List Nat := [132, 111]
def ZByt : List (List Int32) := [ZS0.map Int32.ofInt, ZS1.map Int32.ofInt]
def ZT0 : String := "room  by    line  bends thing at    worth leg   big   yield night sweep move  to    any   when  boardsvalue holds loop  end   stop  "
def ZT1 : String := " room line bends thing by at worth leg big yield night sweep move any to when loop end stop boards value holds "
def SS (D : va_G) (cA : Nat → ClassId) (A : Nat → Prop) (sp : Nat × Nat × Nat) (Ls : Nat) (xs : Nat → Int32) (adV : Nat → Nat) (U : State) : Prop :=
  (∀ w ∈ lw_tbl, goodWord w = true → w.before #[] U = true) ∧
  (∀ (a : String) (i : Nat) (x : MethodName) (g : String), Jvm.Cond.methodLinkNest a i x g ∈ lw_tbl → va_Nw (.methodLinkNest a i x g) U) ∧
  (va_AO "ChalkRoom$Floor" U ∧ va_AO "ChalkRoom$Talks" U) ∧
  (vk_R "ChalkRoom$Tokens" 54 ZT0 sp.2.1 U ∧ vk_R "ChalkRoomModel" 183 ZT1 sp.2.2 U) ∧
  vk_S 2 ZLen ZByt (fun i => if i = 0 then sp.2.1 else sp.2.2) adV A U U.heap ∧
  va_Z "java/lang/String" "COMPACT_STRINGS" "Z" (.int 1) A U U.heap ∧
  va_Zq "jdk/internal/util/Preconditions" "SIOOBE_FORMATTER" "Ljava/util/function/BiFunction;" A U U.heap ∧
  va_K D vwCl (ztys cA) U ∧ (va_X sp.1 Ls xs U U.heap ∧ sp.1 < U.heap.size ∧ ¬ A sp.1) ∧ ∀ q, U.heap.size ≤ q → A q
theorem SS.moved {D : va_G} {cA : Nat → ClassId} {A : Nat → Prop} {sp : Nat × Nat × Nat} {Ls : Nat} {xs : Nat → Int32} {adV : Nat → Nat} {s U : State} (hW : s.WarmedH U.vm) (hz : s.heap.size ≤ U.heap.size) (hq : ∀ q, q < s.heap.size → ¬ A q → U.heap[q]? = s.heap[q]?) (S : SS D cA A sp Ls xs adV s) : SS D cA A sp Ls xs adV U := by
  obtain ⟨h1, h2, ⟨h3, h4⟩, ⟨h5, h6⟩, h7, h8, h9, h10, ⟨h11, h12, h13⟩, h14⟩ := S
  refine ⟨fun w hw hg => word_at hW (good_of_word hg) (h1 w hw hg), fun a i x g hw => va_Nw.warmM hW (h2 a i x g hw), ⟨h3.moved hW.alike, h4.moved hW.alike⟩, ⟨h5.warm hW, h6.warm hW⟩, (h7.kept hq).moved hW.alike, (h8.kept hq).moved hW.alike, (h9.kept hq).moved hW.alike, h10.moved hW.alike, ⟨(h11.kept (hq _ h12 h13)).moved hW.alike, Nat.lt_of_lt_of_le h12 hz, h13⟩, fun q h => h14 q (Nat.le_trans hz h)⟩
/-! ===== locals ===== -/
def LV (ρ : Nat → Nat) (a : Nat) (ls : Array Slot) (al : List AV) : Prop := ls.size = al.length ∧ lv_wf ls ∧ ∀ (i : Nat) (v : AV), al[i]? = some v → v = vr 9999 ∨ (okv a v ∧ ls[i]? = some (.val (vl ρ v)))
def lvl (ρ : Nat → Nat) (al : List AV) : List (Nat × Value) := (List.range al.length).filterMap (fun i => match al[i]? with
  | some v => if v = vr 9999 then none else some (i, vl ρ v)
  | none => none)
theorem mem_lvl {ρ : Nat → Nat} {al : List AV} {q : Nat × Value} : q ∈ lvl ρ al ↔ ∃ v, al[q.1]? = some v ∧ v ≠ vr 9999 ∧ q.2 = vl ρ v := by
  unfold lvl
  rw [List.mem_filterMap]
  constructor
  · rintro ⟨i, hi, h⟩
    cases hv : al[i]? with
    | none => rw [hv] at h; cases h
    | some v =>
      rw [hv] at h
      by_cases e : v = vr 9999
      · simp [e] at h
      · simp only [if_neg e] at h
        cases h
        exact ⟨v, hv, e, rfl⟩
  · rintro ⟨v, hv, hn, hq⟩
    refine ⟨q.1, ?_, ?_⟩
    · rw [List.mem_range]
      exact (List.getElem?_eq_some_iff.mp hv).1
    · simp only [hv, if_neg hn, ← hq]
theorem LV.has {ρ : Nat → Nat} {a : Nat} {ls : Array Slot} {al : List AV} (h : LV ρ a ls al) : lv_has ls al.length (lvl ρ al) := by
  refine ⟨h.1, h.2.1, fun q hq => ?_⟩
  obtain ⟨v, h1, h2, h3⟩ := mem_lvl.mp hq
  rcases h.2.2 _ _ h1 with e | ⟨-, e⟩
  · exact absurd e h2
  · rw [h3]; exact e
theorem LV.ld {ρ : Nat → Nat} {a : Nat} {ls : Array Slot} {al : List AV} (h : LV ρ a ls al) {i : Nat} {v : AV} (hv : al[i]? = some v) (hn : v ≠ vr 9999) : okv a v ∧ ls[i]? = some (.val (vl ρ v)) := by
  rcases h.2.2 _ _ hv with e | e
  · exact absurd e hn
  · exact e
theorem lclr_len (al : List AV) (i : Nat) : (lclr al i).length = al.length := by
  cases i with
  | zero => rfl
  | succ j =>
    unfold lclr
    simp only
    split <;> simp
theorem lclr_get {al : List AV} {i j : Nat} {v : AV} (h : (lclr al i)[j]? = some v) : v = vr 9999 ∨ (al[j]? = some v ∧ ¬ (j + 1 = i ∧ ∃ z, v = .inr (.inl z))) := by
  cases i with
  | zero =>
    unfold lclr at h
    simp only at h
    exact Or.inr ⟨h, fun q => by omega⟩
  | succ k =>
    unfold lclr at h
    simp only at h
    split at h
    · rename_i z hz
      rw [List.getElem?_set] at h
      by_cases e : k = j
      · subst e
        rw [if_pos rfl] at h
        by_cases hl : k < al.length
        · rw [if_pos hl] at h
          cases h
          exact Or.inl rfl
        · rw [if_neg hl] at h
          cases h
      · rw [if_neg e] at h
        exact Or.inr ⟨h, fun q => e (by omega)⟩
    · rename_i hz
      refine Or.inr ⟨h, fun q => ?_⟩
      obtain ⟨e, z, rfl⟩ := q
      have e : j = k := by omega
      subst e
      exact hz z h
theorem vl_cat (ρ : Nat → Nat) (v : AV) : (vl ρ v).category = acat v := by
  rcases v with z | z | k <;> rfl
theorem LV.st1 {ρ : Nat → Nat} {a : Nat} {ls' : Array Slot} {al : List AV} {i : Nat} {v : AV} (hi : i < al.length) (hv : okv a v) (h0 : ∀ (j : Nat) (w : AV), al[j]? = some w → w = vr 9999 ∨ okv a w)
    (h : lv_has ls' al.length ((i, vl ρ v) :: (lvl ρ al).filter (fun q => !(q.1 == i) && !(q.1 + 1 == i && q.2.category == 2)))) : LV ρ a ls' (lst1 al i v) := by
  obtain ⟨h1, h2, h3⟩ := h
  refine ⟨by rw [h1]; simp [lst1, lclr_len], h2, fun j w hw => ?_⟩
  unfold lst1 at hw
  rw [List.getElem?_set] at hw
  by_cases e : i = j
  · subst e
    rw [if_pos rfl, lclr_len, if_pos hi] at hw
    cases hw
    exact Or.inr ⟨hv, h3 _ List.mem_cons_self⟩
  · rw [if_neg e] at hw
    rcases lclr_get hw with q | ⟨q1, q2⟩
    · exact Or.inl q
    · by_cases hd : w = vr 9999
      · exact Or.inl hd
      · refine Or.inr ⟨(h0 j w q1).resolve_left hd, h3 (j, vl ρ w) (List.mem_cons_of_mem _ (List.mem_filter.mpr ⟨mem_lvl.mpr ⟨w, q1, hd, rfl⟩, ?_⟩))⟩
        have n1 : (j == i) = false := by simp; omega
        by_cases n2 : j + 1 = i
        · rcases w with z | z | k
          · simp [n1, vl, Value.category]
          · exact absurd ⟨n2, z, rfl⟩ q2
          · simp [n1, vl, Value.category]
        · simp [n1, n2]
theorem LV.st2 {ρ : Nat → Nat} {a : Nat} {ls' : Array Slot} {al : List AV} {i : Nat} {v : AV} (hi : i + 1 < al.length) (hv : okv a v) (h0 : ∀ (j : Nat) (w : AV), al[j]? = some w → w = vr 9999 ∨ okv a w)
    (h : lv_has ls' al.length ((i, vl ρ v) :: (lvl ρ al).filter (fun q => !(q.1 == i) && (!(q.1 == i + 1) && !(q.1 + 1 == i && q.2.category == 2))))) : LV ρ a ls' (lst2 al i v) := by
  obtain ⟨h1, h2, h3⟩ := h
  refine ⟨by rw [h1]; simp [lst2, lclr_len], h2, fun j w hw => ?_⟩
  unfold lst2 at hw
  rw [List.getElem?_set] at hw
  by_cases e1 : i + 1 = j
  · subst e1
    rw [if_pos rfl] at hw
    simp only [List.length_set, lclr_len, if_pos hi] at hw
    cases hw
    exact Or.inl rfl
  · rw [if_neg e1, List.getElem?_set] at hw
    by_cases e : i = j
    · subst e
      rw [if_pos rfl, lclr_len, if_pos (by omega)] at hw
      cases hw
      exact Or.inr ⟨hv, h3 _ List.mem_cons_self⟩
    · rw [if_neg e] at hw
      rcases lclr_get hw with q | ⟨q1, q2⟩
      · exact Or.inl q
      · by_cases hd : w = vr 9999
        · exact Or.inl hd
        · refine Or.inr ⟨(h0 j w q1).resolve_left hd, h3 (j, vl ρ w) (List.mem_cons_of_mem _ (List.mem_filter.mpr ⟨mem_lvl.mpr ⟨w, q1, hd, rfl⟩, ?_⟩))⟩
          have n1 : (j == i) = false := by simp; omega
          have n3 : (j == i + 1) = false := by simp; omega
          by_cases n2 : j + 1 = i
          · rcases w with z | z | k
            · simp [n1, n3, vl, Value.category]
            · exact absurd ⟨n2, z, rfl⟩ q2
            · simp [n1, n3, vl, Value.category]
          · simp [n1, n2, n3]
theorem LV.ok {ρ : Nat → Nat} {a : Nat} {ls : Array Slot} {al : List AV} (h : LV ρ a ls al) : ∀ (j : Nat) (w : AV), al[j]? = some w → w = vr 9999 ∨ okv a w := fun j w hw => (h.2.2 j w hw).imp id (fun q => q.1)
/-- the locals with which a method begins -/
theorem lv_args_at {ρ : Nat → Nat} : ∀ (as : List AV) (n j : Nat) (v : AV), (lay as)[j]? = some v → v = vr 9999 ∨ (n + j, vl ρ v) ∈ lv_args n (as.map (vl ρ))
  | [], n, j, v, h => by simp [lay] at h
  | w :: as, n, j, v, h => by
    rcases w with z | z | k
    · simp only [lay] at h
      cases j with
      | zero => simp at h; subst h; right; simp [lv_args]
      | succ j =>
        rw [List.getElem?_cons_succ] at h
        rcases lv_args_at as (n + 1) j v h with q | q
        · exact Or.inl q
        · right
          simp only [List.map_cons, lv_args, vl, Value.category]
          exact List.mem_cons_of_mem _ (show (n + (j + 1), vl ρ v) ∈ lv_args (n + 1) (as.map (vl ρ)) by
              have e : n + (j + 1) = n + 1 + j := by omega
              rw [e]; exact q)
    · simp only [lay] at h
      cases j with
      | zero => simp at h; subst h; right; simp [lv_args]
      | succ j =>
        rw [List.getElem?_cons_succ] at h
        cases j with
        | zero => simp at h; exact Or.inl h.symm
        | succ j =>
          rw [List.getElem?_cons_succ] at h
          rcases lv_args_at as (n + 2) j v h with q | q
          · exact Or.inl q
          · right
            simp only [List.map_cons, lv_args, vl, Value.category]
            exact List.mem_cons_of_mem _ (show (n + (j + 1 + 1), vl ρ v) ∈ lv_args (n + 2) (as.map (vl ρ)) by
              have e : n + (j + 1 + 1) = n + 2 + j := by omega
              rw [e]; exact q)
    · simp only [lay] at h
      cases j with
      | zero => simp at h; subst h; right; simp [lv_args]
      | succ j =>
        rw [List.getElem?_cons_succ] at h
        rcases lv_args_at as (n + 1) j v h with q | q
        · exact Or.inl q
        · right
          simp only [List.map_cons, lv_args, vl, Value.category]
          exact List.mem_cons_of_mem _ (show (n + (j + 1), vl ρ v) ∈ lv_args (n + 1) (as.map (vl ρ)) by
              have e : n + (j + 1) = n + 1 + j := by omega
              rw [e]; exact q)
theorem lay_mem {v : AV} : ∀ (as : List AV), v ∈ lay as → v = vr 9999 ∨ v ∈ as
  | [], h => by simp [lay] at h
  | w :: as, h => by
    rcases w with z | z | k
    · simp only [lay, List.mem_cons] at h
      rcases h with h | h
      · exact Or.inr (by simp [h])
      · exact (lay_mem as h).imp id (fun q => List.mem_cons_of_mem _ q)
    · simp only [lay, List.mem_cons] at h
      rcases h with h | h | h
      · exact Or.inr (by simp [h])
      · exact Or.inl h
      · exact (lay_mem as h).imp id (fun q => List.mem_cons_of_mem _ q)
    · simp only [lay, List.mem_cons] at h
      rcases h with h | h
      · exact Or.inr (by simp [h])
      · exact (lay_mem as h).imp id (fun q => List.mem_cons_of_mem _ q)
theorem lay_len {ρ : Nat → Nat} : ∀ (as : List AV), (lg_sl (as.map (vl ρ))).length = (lay as).length
  | [] => rfl
  | w :: as => by
    have ih := lay_len (ρ := ρ) as
    rcases w with z | z | k
    · simp only [List.map_cons, lg_sl, lay, List.flatMap_cons, List.length_append, List.length_cons] at ih ⊢
      rw [ih]; simp [vl, Value.category]; omega
    · simp only [List.map_cons, lg_sl, lay, List.flatMap_cons, List.length_append, List.length_cons] at ih ⊢
      rw [ih]; simp [vl, Value.category]; omega
    · simp only [List.map_cons, lg_sl, lay, List.flatMap_cons, List.length_append, List.length_cons] at ih ⊢
      rw [ih]; simp [vl, Value.category]; omega
theorem LV.entry {ρ : Nat → Nat} {a : Nat} {as : List AV} {mj : Nat} (ho : ∀ v ∈ as, okv a v) (hl : (lay as).length ≤ zmL mj) :
    LV ρ a ((lg_sl (as.map (vl ρ)) ++ List.replicate (zmL mj - (lg_sl (as.map (vl ρ))).length) Slot.unset).toArray) (zent mj as) := by
  obtain ⟨h1, h2, h3⟩ := lv_entry (as.map (vl ρ)) (n := zmL mj) (by rw [lay_len]; exact hl)
  refine ⟨?_, h2, fun i v hv => ?_⟩
  · rw [h1]; simp [zent]; omega
  · unfold zent at hv
    by_cases hi : i < (lay as).length
    · rw [List.getElem?_append_left hi] at hv
      rcases lv_args_at (ρ := ρ) as 0 i v hv with q | q
      · exact Or.inl q
      · rcases lay_mem as (List.mem_of_getElem? hv) with q2 | q2
        · exact Or.inl q2
        · refine Or.inr ⟨ho v q2, ?_⟩
          have := h3 _ q
          simpa using this
    · rw [List.getElem?_append_right (by omega)] at hv
      exact Or.inl (List.eq_of_mem_replicate (List.mem_of_getElem? hv))
