/-! ===== calls in general; the JDK's String methods over the two constants ===== -/
section XC
variable {p : Program} {l : Launch} {e : Env} {R : Room} {s : State} {m : MethodId} {args : Array Value} {below : List Frame} {meth : Method} {c : Code} {H : Heap} {locs : List Loc} {cells slots : Nat} {Q : State → Prop}
variable {pc : Nat} {ls : Array Slot} {rest st0 : List Value} {A : Nat → Prop} {mc ms : Nat}
theorem xcall {Qa : State → Outcome → State → Prop} (hr : va_Run p l e R s m args below meth c H locs cells slots mc ms (F0 m pc ls st0) rest Qa A) (hS : va_S A s.heap H locs) (hQ : ∀ (st t : State) (o : Outcome), Qa st o t → va_F A st t)
    (kk : ∀ (v : Option Value) (st t : State) (H1 : Heap) (locs1 : List Loc), t.heap = H1 → st.heap = H → s.vm.Alike t.vm → Qa st (.returned v) t → va_S A s.heap H1 locs1 → W p l e R s m args below meth c H1 locs1 (cells + mc) (slots + ms) Q (F0 m (pc + 3) ls (v.toList ++ rest))) : W p l e R s m args below meth c H locs cells slots Q (F0 m pc ls st0) := by
  intro T hT X
  obtain ⟨v, st₀, t, T', L, h0, X', hL, e1, e2, hq, st⟩ := hr T hT X
  obtain ⟨hz, hk⟩ := hQ _ _ _ hq
  rw [h0] at hz hk
  obtain ⟨t2, a1, b1⟩ := kk v st₀ t T'.heap (locs ++ L) e1.symm h0 (by rw [← e2]; exact X'.warmed.alike) hq
    ⟨Nat.le_trans hS.1 (by rw [e1]; exact hz), fun q h1 h2 => by rw [e1, hk q (Nat.lt_of_lt_of_le h1 hS.1) h2]; exact hS.2.1 q h1 h2, fun q hq => by
      rcases List.mem_append.mp hq with h | h
      · exact hS.2.2 q h
      · exact hL q h⟩ T' rfl X'
  exact ⟨t2, st t2 a1, b1⟩
end XC
abbrev zcode (y : MethodName) (b : ByteArray) (n : Nat) (r : Option FieldType) : List Jvm.Cond := [.code y b n r]
theorem zcode_good {y : MethodName} {b : ByteArray} {n : Nat} {r : Option FieldType} (h : Jvm.Cond.code y b n r ∈ lw_tbl) : GoodIn zTs (zcode y b n r) := zTs_good (fun w hw => by
  rw [List.mem_singleton.mp hw]
  exact ⟨h, rfl⟩)
def SQ (v : Value) (A : Nat → Prop) : Array Value → State → Outcome → State → Prop := fun _ st o t => o = .returned (some v) ∧ t.heap = st.heap ∧ va_F A st t
def SQ0 (A : Nat → Prop) : Array Value → State → Outcome → State → Prop := fun _ st o t => o = .returned none ∧ t.heap = st.heap ∧ va_F A st t
section STR
variable {D : va_G} {cA : Nat → ClassId} {A : Nat → Prop} {sp : Nat × Nat × Nat} {Ls : Nat} {xs : Nat → Int32} {adV : Nat → Nat}
def SP (D : va_G) (cA : Nat → ClassId) (A : Nat → Prop) (sp : Nat × Nat × Nat) (Ls : Nat) (xs : Nat → Int32) (adV : Nat → Nat) (as : List Value) : Array Value → State → Prop := fun v U => v = as.toArray ∧ SS D cA A sp Ls xs adV U
theorem SP.blind {as : List Value} : FrameBlind (SP D cA A sp Ls xs adV as) := fun a U g mk q => ⟨q.1, SS.moved (s := U) (U := U.calling g mk a) (State.WarmedH.refl U) (Nat.le_refl _) (fun _ _ _ => rfl) q.2⟩
def adK (sp : Nat × Nat × Nat) (i : Nat) : Nat := if i = 0 then sp.2.1 else sp.2.2
abbrev zyCo : MethodName := ⟨"java/lang/String", "coder", "()B"⟩
abbrev zyLa : MethodName := ⟨"java/lang/String", "isLatin1", "()Z"⟩
abbrev zyCk : MethodName := ⟨"java/lang/String", "checkIndex", "(II)V"⟩
abbrev zyPc : MethodName := ⟨"jdk/internal/util/Preconditions", "checkIndex", "(IILjava/util/function/BiFunction;)I"⟩
abbrev zyL1 : MethodName := ⟨"java/lang/StringLatin1", "charAt", "([BI)C"⟩
theorem SS.S5 {s : State} (S : SS D cA A sp Ls xs adV s) : vk_S 2 ZLen ZByt (adK sp) adV A s s.heap := S.2.2.2.2.1
theorem SS.hA {s : State} (S : SS D cA A sp Ls xs adV s) : ∀ q, s.heap.size ≤ q → A q := S.2.2.2.2.2.2.2.2.2
theorem va_F_same {st t : State} (h : t.heap = st.heap) : va_F A st t := ⟨by rw [h]; exact Nat.le_refl _, fun q _ _ => by rw [h]⟩
set_option maxRecDepth 100000 in
/-- coder() is 0 -/
theorem c_coder (l : Launch) (i : Nat) (hi : i < 2) : Met l zyCo (zcode zyCo prog_16_method_152_code 1 (some .byte)) { frames := 0, cells := 0, slots := 0, locals := 0 } (SP D cA A sp Ls xs adV [.ref (adK sp i)]) (SQ (.int 0) A) 0 0 A := by
  refine va_MetF (cc := prog_16_method_152_code) (maxL := 1) (ret := some .byte) (by decide +kernel) rfl ?_
  intro p e s m args below meth c s₁ B hml hv
  obtain ⟨rfl, S⟩ := hv
  have hx := B.exec
  have hb := B.bytes
  have hr := B.returns
  have hlocks := B.notSynchronized
  have hown : s.vm.findClass "java/lang/String" = some m.cls := findClass_of_methodNamed B.named
  have hS : va_S A s.heap s.heap [] := va_S.rf
  have hl := lv_entry ([.ref (adK sp i)]) (n := 1) (Nat.le_of_ble_eq_true rfl)
  rw [lg_entry_eq]
  generalize (lg_sl ([.ref (adK sp i)]) ++ List.replicate (1 - (lg_sl ([.ref (adK sp i)])).length) Slot.unset).toArray = ls at hl ⊢
  have hl : lv_has ls 1 [(0, .ref (adK sp i))] := hl
  refine va_gets hx hb S.2.2.2.2.2.1 hS hown (S.word (w := .fieldLink "java/lang/String" 38 "java/lang/String" "COMPACT_STRINGS" "Z") (by decide +kernel) rfl _) (fun _ h => h) (by decide +kernel) ?_
  refine lv_if_eq (tgt := 13) hx hb (off := 10) (by decide +kernel) (by decide) (fun q => absurd q (by decide)) (fun _ => ?_)
  refine lv_aload_n (k := 0) hx hb (by decide +kernel) rfl (lv_at hl 0 rfl) ?_
  refine va_getX (v := fun _ => .int 0) (ad := adK sp) hx hb (fun j hj => (S.S5.1 j hj).2.1) hi hS hown (S.word (w := .fieldLink "java/lang/String" 15 "java/lang/String" "coder" "B") (by decide +kernel) rfl _) (fun _ h => h) (by decide +kernel) ?_
  refine lv_goto (tgt := 14) hx hb (off := 4) (by decide +kernel) (by decide) ?_
  exact W.zret hx hb hr rfl (fun t ht _ => ⟨rfl, ht, va_F_same ht⟩) (fun q h => by cases h) (by decide +kernel)
set_option maxRecDepth 100000 in
/-- isLatin1() is true -/
theorem c_isLatin1 (l : Launch) (i : Nat) (hi : i < 2) : Met l zyLa (zcode zyLa prog_16_method_154_code 1 (some .boolean)) { frames := 0, cells := 0, slots := 0, locals := 0 } (SP D cA A sp Ls xs adV [.ref (adK sp i)]) (SQ (.int 1) A) 0 0 A := by
  refine va_MetF (cc := prog_16_method_154_code) (maxL := 1) (ret := some .boolean) (by decide +kernel) rfl ?_
  intro p e s m args below meth c s₁ B hml hv
  obtain ⟨rfl, S⟩ := hv
  have hx := B.exec
  have hb := B.bytes
  have hr := B.returns
  have hlocks := B.notSynchronized
  have hown : s.vm.findClass "java/lang/String" = some m.cls := findClass_of_methodNamed B.named
  have hS : va_S A s.heap s.heap [] := va_S.rf
  have hl := lv_entry ([.ref (adK sp i)]) (n := 1) (Nat.le_of_ble_eq_true rfl)
  rw [lg_entry_eq]
  generalize (lg_sl ([.ref (adK sp i)]) ++ List.replicate (1 - (lg_sl ([.ref (adK sp i)])).length) Slot.unset).toArray = ls at hl ⊢
  have hl : lv_has ls 1 [(0, .ref (adK sp i))] := hl
  refine va_gets hx hb S.2.2.2.2.2.1 hS hown (S.word (w := .fieldLink "java/lang/String" 38 "java/lang/String" "COMPACT_STRINGS" "Z") (by decide +kernel) rfl _) (fun _ h => h) (by decide +kernel) ?_
  refine lv_if_eq (tgt := 17) hx hb (off := 14) (by decide +kernel) (by decide) (fun q => absurd q (by decide)) (fun _ => ?_)
  refine lv_aload_n (k := 0) hx hb (by decide +kernel) rfl (lv_at hl 0 rfl) ?_
  refine va_getX (v := fun _ => .int 0) (ad := adK sp) hx hb (fun j hj => (S.S5.1 j hj).2.1) hi hS hown (S.word (w := .fieldLink "java/lang/String" 15 "java/lang/String" "coder" "B") (by decide +kernel) rfl _) (fun _ h => h) (by decide +kernel) ?_
  refine lv_if_ne (tgt := 17) hx hb (off := 7) (by decide +kernel) (by decide) (fun q => absurd rfl q) (fun _ => ?_)
  refine lv_iconst (n := 1) (v := 1) hx hb (by decide +kernel) (by decide) ?_
  refine lv_goto (tgt := 18) hx hb (off := 4) (by decide +kernel) (by decide) ?_
  exact W.zret hx hb hr rfl (fun t ht _ => ⟨rfl, ht, va_F_same ht⟩) (fun q h => by cases h) (by decide +kernel)
set_option maxRecDepth 100000 in
/-- Preconditions.checkIndex of a good index -/
theorem c_pcheck (l : Launch) (k n : Int32) (w : Value) (h0 : ¬ k < 0) (h1 : k < n) (hw : w.category = 1) : Met l zyPc (zcode zyPc prog_21_method_11_code 3 (some .int)) { frames := 0, cells := 0, slots := 0, locals := 0 } (SP D cA A sp Ls xs adV [.int k, .int n, w]) (SQ (.int k) A) 0 0 A := by
  refine va_MetF (cc := prog_21_method_11_code) (maxL := 3) (ret := some .int) (by decide +kernel) rfl ?_
  intro p e s m args below meth c s₁ B hml hv
  obtain ⟨rfl, S⟩ := hv
  have hx := B.exec
  have hb := B.bytes
  have hr := B.returns
  have hlocks := B.notSynchronized
  have hS : va_S A s.heap s.heap [] := va_S.rf
  have hsl : (lg_sl ([.int k, .int n, w])).length = 3 := by
    have e1 : (Value.int k).category = 1 := rfl
    have e2 : (Value.int n).category = 1 := rfl
    simp [lg_sl, e1, e2, hw]
  have hl := lv_entry ([.int k, .int n, w]) (n := 3) (by omega)
  rw [lg_entry_eq]
  generalize (lg_sl ([.int k, .int n, w]) ++ List.replicate (3 - (lg_sl ([.int k, .int n, w])).length) Slot.unset).toArray = ls at hl ⊢
  have hl : lv_has ls 3 [(0, .int k), (1, .int n), (2, w)] := hl
  refine lv_iload_n (k := 0) hx hb (by decide +kernel) rfl (lv_at hl 0 rfl) ?_
  refine lv_if_lt (tgt := 9) hx hb (off := 8) (by decide +kernel) (by decide) (fun q => absurd q h0) (fun _ => ?_)
  refine lv_iload_n (k := 0) hx hb (by decide +kernel) rfl (lv_at hl 0 rfl) ?_
  refine lv_iload_n (k := 1) hx hb (by decide +kernel) rfl (lv_at hl 1 rfl) ?_
  refine lv_icmp_lt (tgt := 16) hx hb (off := 10) (by decide +kernel) (by decide) (fun _ => ?_) (fun q => absurd h1 q)
  refine lv_iload_n (k := 0) hx hb (by decide +kernel) rfl (lv_at hl 0 rfl) ?_
  exact W.iret hx hb hr (fun t ht _ => ⟨rfl, ht, va_F_same ht⟩) (fun q h => by cases h) (by decide +kernel)
theorem SP_s {s : State} {H : Heap} {locs : List Loc} {as : List Value} (S : SS D cA A sp Ls xs adV s) (hS : va_S A s.heap H locs) : PreS s H (SP D cA A sp Ls xs adV as) as :=
  ⟨SP.blind, fun U hU hW => ⟨rfl, S.moved hW (by rw [hU]; exact hS.1) (fun q h1 h2 => by rw [hU]; exact hS.2.1 q h1 h2)⟩⟩
set_option maxRecDepth 100000 in
/-- String.checkIndex of a good index -/
theorem c_scheck (l : Launch) (k n : Int32) (h0 : ¬ k < 0) (h1 : k < n) : Met l zyCk (zcode zyCk prog_16_method_155_code 2 none) { frames := 1, cells := 0, slots := 0, locals := 22 } (SP D cA A sp Ls xs adV [.int k, .int n]) (SQ0 A) 0 0 A := by
  refine va_MetF (cc := prog_16_method_155_code) (maxL := 2) (ret := none) (by decide +kernel) rfl ?_
  intro p e s m args below meth c s₁ B hml hv
  obtain ⟨rfl, S⟩ := hv
  have hx := B.exec
  have hb := B.bytes
  have hr := B.returns
  have hlocks := B.notSynchronized
  have hown : s.vm.findClass "java/lang/String" = some m.cls := findClass_of_methodNamed B.named
  have hS : va_S A s.heap s.heap [] := va_S.rf
  have hl := lv_entry ([.int k, .int n]) (n := 2) (Nat.le_of_ble_eq_true rfl)
  rw [lg_entry_eq]
  generalize (lg_sl ([.int k, .int n]) ++ List.replicate (2 - (lg_sl ([.int k, .int n])).length) Slot.unset).toArray = ls at hl ⊢
  have hl : lv_has ls 2 [(0, .int k), (1, .int n)] := hl
  refine lv_iload_n (k := 0) hx hb (by decide +kernel) rfl (lv_at hl 0 rfl) ?_
  refine lv_iload_n (k := 1) hx hb (by decide +kernel) rfl (lv_at hl 1 rfl) ?_
  have fin : ∀ w : Value, w.category = 1 → W p l e { frames := 1, cells := 0, slots := 0, locals := 22 } s m ([.int k, .int n] : List Value).toArray below meth c s.heap [] 0 0 (MQ below (SQ0 A) ([.int k, .int n] : List Value).toArray s 0 0 A) (F0 m (2 + 3) ls (w :: .int n :: .int k :: [])) := by
    intro w hw
    refine xcall (va_runS (As := [.int k, .int n, w]) (rest := []) (Ts := zTs) ⟨hx, hb, hml, hown, S.ts _⟩ (c_pcheck l k n w h0 h1 hw) ⟨callB_of 3 (S.ts _) (zcode_good (by decide +kernel)) rfl rfl rfl (S.word (w := .initialized "jdk/internal/util/Preconditions") (by decide +kernel) rfl _) (S.word (w := .methodLink "java/lang/String" 1059 zyPc) (by decide +kernel) rfl _) (by decide +kernel) ⟨by decide, by decide⟩, S.word (w := .static zyPc) (by decide +kernel) rfl _⟩ (SP_s S hS) rfl rfl hl.1 rfl (lv_room (Nat.le_of_ble_eq_true rfl)) (show decode prog_16_method_155_code 5 = .ok (.invokestatic 1059, 3) by decide +kernel) ⟨by decide, by decide⟩) hS (fun _ _ _ h => h.2.2) (fun v st t H1 locs1 h2 h3 h4 h5 h6 => ?_)
    obtain ⟨h7, h8, -⟩ := h5
    cases h7
    refine lv_pop (va := .int k) hx hb (by decide +kernel) rfl ?_
    exact W.vret hx hb hr (fun t' ht _ => ⟨rfl, by rw [ht, ← h2, h8, h3], h6.F ht⟩) h6.2.2 (by decide +kernel)
  rcases S.2.2.2.2.2.2.1 with hZ | ⟨t, hZ⟩
  · exact va_gets hx hb hZ hS hown (S.word (w := .fieldLink "java/lang/String" 1053 "jdk/internal/util/Preconditions" "SIOOBE_FORMATTER" "Ljava/util/function/BiFunction;") (by decide +kernel) rfl _) (fun _ h => h) (by decide +kernel) (fin .null rfl)
  · exact va_gets hx hb hZ hS hown (S.word (w := .fieldLink "java/lang/String" 1053 "jdk/internal/util/Preconditions" "SIOOBE_FORMATTER" "Ljava/util/function/BiFunction;") (by decide +kernel) rfl _) (fun _ h => h) (by decide +kernel) (fin (.ref t) rfl)
end STR
