def rkind (mi : Nat) (r : Option AV) (pc : Nat) : Prop := match r with
  | none => decode (zmC mi) pc = .ok (.return_, 1) ∧ zmT mi = 0
  | some (.inl v) => decode (zmC mi) pc = .ok (.ireturn, 1) ∧ (zmT mi = 1 ∨ (zmT mi = 3 ∧ (v = 0 ∨ v = 1)))
  | some (.inr (.inl _)) => decode (zmC mi) pc = .ok (.lreturn, 1) ∧ zmT mi = 2
  | some (.inr (.inr _)) => False
def Rt (p : Program) (l : Launch) (e : Env) (R : Room) (s : State) (m : MethodId) (args : Array Value) (below : List Frame) (meth : Method) (c : Code) (Qf : State → Prop) (D : va_G) (cA : Nat → ClassId) (A : Nat → Prop) (sp : Nat × Nat × Nat) (Ls : Nat) (xs : Nat → Int32) (b : Bool) (c0 s0 a0 : Nat) (ρ0 : Nat → Nat) (mi : Nat) (Q : PQ) : Prop :=
  ∀ (r : Option AV) (h' : HP) (ρ : Nat → Nat) (H : Heap) (locs : List Loc) (ls : Array Slot) (pc' : Nat), Q r h' → HK D cA A sp Ls xs b ρ h' H → va_S A s.heap H locs → (∀ v, r = some v → okv (zA b h') v) → a0 ≤ zA b h' → (∀ k, k < a0 → ρ k = ρ0 k) → rkind mi r pc' →
    W p l e R s m args below meth c H locs (c0 + (zA b h' - a0)) (s0 + (zsS (zA b h') - zsS a0)) Qf (F0 m pc' ls (r.toList.map (vl ρ)))
theorem sx_ret {b : Bool} {mi pc : Nat} {al st : List AV} {h : HP} {r : Option AV} (hm : mi < 381) (hsx : sx b mi pc al st h = some (.inr (.inl r))) : rkind mi r pc ∧ st = r.toList := by
  unfold sx at hsx
  cases hf : zfetch mi pc with
  | none => rw [hf] at hsx; cases hsx
  | some E =>
  obtain ⟨I, len, x, y, z, cc⟩ := E
  rw [hf] at hsx
  simp only at hsx
  obtain ⟨hdec, hok⟩ := entry_ok hm hf
  cases I
  case ireturn =>
    simp only [okI, beq_iff_eq] at hok
    subst hok
    simp only [sxi, iret] at hsx
    split at hsx
    · split at hsx
      · rename_i hq
        simp only [Option.some.injEq, Sum.inr.injEq, Sum.inl.injEq] at hsx
        subst hsx
        exact ⟨⟨hdec, hq⟩, rfl⟩
      · cases hsx
    · cases hsx
  case lreturn =>
    simp only [okI, beq_iff_eq] at hok
    subst hok
    simp only [sxi, jret] at hsx
    split at hsx
    · split at hsx
      · rename_i hq
        simp only [Option.some.injEq, Sum.inr.injEq, Sum.inl.injEq] at hsx
        subst hsx
        exact ⟨⟨hdec, hq⟩, rfl⟩
      · cases hsx
    · cases hsx
  case return_ =>
    simp only [okI, beq_iff_eq] at hok
    subst hok
    simp only [sxi, vret] at hsx
    split at hsx
    · split at hsx
      · rename_i hq
        simp only [Option.some.injEq, Sum.inr.injEq, Sum.inl.injEq] at hsx
        subst hsx
        exact ⟨⟨hdec, hq⟩, rfl⟩
      · cases hsx
    · cases hsx
  case newarray ty =>
    cases ty <;> simp only [sxi, inewa, nxt] at hsx <;> (repeat' (split at hsx)) <;> simp at hsx
  all_goals
    simp only [sxi, ipush, ildc, ildi, ildj, ilda, isti, istj, ista, iinc0, ibin, idiv0, icv, ii2l, il2i, jbin, jdiv0, jsh, ilcmp, iald, bald, jald, aald, iast, bast, jast, aast, alen, iget, iput, iinv, icall, inew, inewa, ibr, ibr2, isw, ilk, idup, idup2, ipop, nxt] at hsx
    (repeat' (split at hsx)) <;> simp at hsx
def ckind (mi pc mj : Nat) (as : List AV) : Prop :=
  ∃ idx z : Nat, (decode (zmC mi) pc = .ok (.invokevirtual idx, 3) ∧ okw z (.methodLink (zcN (zmK mi)) idx (zmY mj)) = true ∧ zmS mj = false ∧ zmI mj = false ∧ ∃ (k : Nat) (as' : List AV), as = vr k :: as' ∧ zck k = zmK mj) ∨
    (decode (zmC mi) pc = .ok (.invokestatic idx, 3) ∧ okw z (.methodLink (zcN (zmK mi)) idx (zmY mj)) = true ∧ zmS mj = true) ∨
    (decode (zmC mi) pc = .ok (.invokestatic idx, 3) ∧ okw z (.methodLinkNest (zcN (zmK mi)) idx (zmY mj) "ChalkRoom") = true ∧ zmS mj = true) ∨
    (decode (zmC mi) pc = .ok (.invokespecial idx, 3) ∧ okw z (.methodLink (zcN (zmK mi)) idx (zmY mj)) = true ∧ zmS mj = false ∧ zmI mj = true ∧ ∃ (k : Nat) (as' : List AV), as = vr k :: as' ∧ zck k = zmK mj) ∨
    (decode (zmC mi) pc = .ok (.invokespecial idx, 3) ∧ okw z (.methodLinkNest (zcN (zmK mi)) idx (zmY mj) "ChalkRoom") = true ∧ zmS mj = false ∧ zmI mj = true ∧ ∃ (k : Nat) (as' : List AV), as = vr k :: as' ∧ zck k = zmK mj)
theorem icall_spec {st : List AV} {x y pc : Nat} {mj : Nat} {as st' : List AV} (h : icall st x y pc = some (.inr (.inr (mj, as, st')))) : mj = x ∧ st = as.reverse ++ st' ∧ as.length = zmA x ∧ (st'.map acat).sum ≤ 8 ∧ (lay as).length ≤ zmL x ∧ ((y = 1 ∨ y = 4) ∨ ∃ (k : Nat) (as' : List AV), as = vr k :: as' ∧ zck k = zmK x) := by
  simp only [icall] at h
  split at h
  · rename_i hq
    obtain ⟨q1, q2, q3⟩ := hq
    have fin : ∀ (hh : (x, (st.take (zmA x)).reverse, st.drop (zmA x)) = (mj, as, st')), ((y = 1 ∨ y = 4) ∨ ∃ (k : Nat) (as' : List AV), (st.take (zmA x)).reverse = vr k :: as' ∧ zck k = zmK x) → mj = x ∧ st = as.reverse ++ st' ∧ as.length = zmA x ∧ (st'.map acat).sum ≤ 8 ∧ (lay as).length ≤ zmL x ∧ ((y = 1 ∨ y = 4) ∨ ∃ (k : Nat) (as' : List AV), as = vr k :: as' ∧ zck k = zmK x) := by
      intro hh hd
      simp only [Prod.mk.injEq] at hh
      obtain ⟨rfl, rfl, rfl⟩ := hh
      exact ⟨rfl, by rw [List.reverse_reverse, List.take_append_drop], by simp; omega, q2, q3, hd⟩
    split at h
    · rename_i hy
      simp only [Option.some.injEq, Sum.inr.injEq] at h
      exact fin h (Or.inl hy)
    · split at h
      · rename_i k as' hk
        split at h
        · rename_i hck
          simp only [Option.some.injEq, Sum.inr.injEq] at h
          exact fin h (Or.inr ⟨k, as', hk, hck⟩)
        · cases h
      · cases h
  · cases h
theorem iinv_call {b : Bool} {mi pc x y : Nat} {al st : List AV} {h : HP} {q : Nat × List AV × List AV} (hq : iinv b mi pc al st h x y = some (.inr (.inr q))) : x < 1000 ∧ icall st x y pc = some (.inr (.inr q)) := by
  simp only [iinv] at hq
  split at hq
  · exact ⟨by assumption, hq⟩
  · exfalso
    simp only [nxt] at hq
    (repeat' (split at hq)) <;> simp at hq
theorem sx_call {b : Bool} {mi pc : Nat} {al st : List AV} {h : HP} {mj : Nat} {as st' : List AV} (hm : mi < 381) (hsx : sx b mi pc al st h = some (.inr (.inr (mj, as, st')))) :
    mj < 381 ∧ zmH mj + 1 ≤ zmH mi ∧ 8 + (zmL mj + 11) + zmW mj ≤ zmW mi ∧ st = as.reverse ++ st' ∧ as.length = zmA mj ∧ (st'.map acat).sum ≤ 8 ∧ (lay as).length ≤ zmL mj ∧ ckind mi pc mj as := by
  unfold sx at hsx
  cases hf : zfetch mi pc with
  | none => rw [hf] at hsx; cases hsx
  | some E =>
  obtain ⟨I, len, x, y, z, cc⟩ := E
  rw [hf] at hsx
  simp only at hsx
  obtain ⟨hdec, hok⟩ := entry_ok hm hf
  cases I
  case invokevirtual idx =>
    simp only [sxi] at hsx
    obtain ⟨hx, hc⟩ := iinv_call hsx
    obtain ⟨rfl, e1, e2, e3, e4, e5⟩ := icall_spec hc
    simp only [okI, Bool.and_eq_true, beq_iff_eq] at hok
    obtain ⟨rfl, hok⟩ := hok
    rw [if_pos hx] at hok
    simp only [okcall, Bool.and_eq_true, decide_eq_true_eq, beq_iff_eq] at hok
    obtain ⟨⟨⟨⟨⟨g1, g2, g3⟩, g4⟩, g5⟩, g6⟩, g7⟩ := hok
    rw [if_pos (by omega)] at g4
    exact ⟨g1, g2, g3, e1, e2, e3, e4, idx, z, Or.inl ⟨hdec, g4, g6, g7, e5.resolve_left (by omega)⟩⟩
  case invokestatic idx =>
    simp only [sxi] at hsx
    obtain ⟨hx, hc⟩ := iinv_call hsx
    obtain ⟨rfl, e1, e2, e3, e4, e5⟩ := icall_spec hc
    simp only [okI, Bool.and_eq_true, beq_iff_eq] at hok
    obtain ⟨rfl, hok⟩ := hok
    rw [if_pos hx] at hok
    simp only [okcall, Bool.and_eq_true, decide_eq_true_eq, beq_iff_eq] at hok
    obtain ⟨⟨⟨⟨g1, g2, g3⟩, g4⟩, g5⟩, g6⟩ := hok
    refine ⟨g1, g2, g3, e1, e2, e3, e4, idx, z, ?_⟩
    rcases g5 with g5 | g5
    · rw [if_pos (by omega)] at g4
      exact Or.inr (Or.inl ⟨hdec, g4, g6⟩)
    · rw [if_neg (by omega)] at g4
      exact Or.inr (Or.inr (Or.inl ⟨hdec, g4, g6⟩))
  case invokespecial idx =>
    simp only [sxi] at hsx
    obtain ⟨hx, hc⟩ := iinv_call hsx
    obtain ⟨rfl, e1, e2, e3, e4, e5⟩ := icall_spec hc
    simp only [okI, Bool.and_eq_true, beq_iff_eq] at hok
    obtain ⟨rfl, hok⟩ := hok
    rw [if_pos hx] at hok
    simp only [okcall, Bool.and_eq_true, decide_eq_true_eq, beq_iff_eq] at hok
    obtain ⟨⟨⟨⟨⟨g1, g2, g3⟩, g4⟩, g5⟩, g6⟩, g7⟩ := hok
    refine ⟨g1, g2, g3, e1, e2, e3, e4, idx, z, ?_⟩
    rcases g5 with g5 | g5
    · rw [if_pos (by omega)] at g4
      exact Or.inr (Or.inr (Or.inr (Or.inl ⟨hdec, g4, g7, g6, e5.resolve_left (by omega)⟩)))
    · rw [if_neg (by omega)] at g4
      exact Or.inr (Or.inr (Or.inr (Or.inr ⟨hdec, g4, g7, g6, e5.resolve_left (by omega)⟩)))
  case newarray ty =>
    cases ty <;> simp only [sxi, inewa, nxt] at hsx <;> (repeat' (split at hsx)) <;> simp at hsx
  all_goals
    simp only [sxi, ipush, ildc, ildi, ildj, ilda, isti, istj, ista, iinc0, ibin, idiv0, icv, ii2l, il2i, jbin, jdiv0, jsh, ilcmp, iald, bald, jald, aald, iast, bast, jast, aast, alen, iget, iput, inew, inewa, ibr, ibr2, isw, ilk, idup, idup2, ipop, iret, jret, vret, nxt] at hsx
    (repeat' (split at hsx)) <;> simp at hsx
def CP (D : va_G) (cA : Nat → ClassId) (A : Nat → Prop) (sp : Nat × Nat × Nat) (Ls : Nat) (xs : Nat → Int32) (adV : Nat → Nat) (b : Bool) (ρ : Nat → Nat) (h : HP) (as : List AV) : Array Value → State → Prop := fun v U => v = (as.map (vl ρ)).toArray ∧ SS D cA A sp Ls xs adV U ∧ HK D cA A sp Ls xs b ρ h U.heap
def CQ (D : va_G) (cA : Nat → ClassId) (A : Nat → Prop) (sp : Nat × Nat × Nat) (Ls : Nat) (xs : Nat → Int32) (b : Bool) (ρ : Nat → Nat) (a : Nat) (r : Option AV) (h' : HP) : Array Value → State → Outcome → State → Prop := fun _ st o t => (∃ ρ' : Nat → Nat, o = .returned (r.map (vl ρ')) ∧ HK D cA A sp Ls xs b ρ' h' t.heap ∧ (∀ k, k < a → ρ' k = ρ k) ∧ (∀ v, r = some v → okv (zA b h') v)) ∧ va_F A st t
theorem CP.blind {D : va_G} {cA : Nat → ClassId} {A : Nat → Prop} {sp : Nat × Nat × Nat} {Ls : Nat} {xs : Nat → Int32} {adV : Nat → Nat} {b : Bool} {ρ : Nat → Nat} {h : HP} {as : List AV} : FrameBlind (CP D cA A sp Ls xs adV b ρ h as) := fun a U g mk q => ⟨q.1, SS.moved (s := U) (U := U.calling g mk a) (State.WarmedH.refl U) (Nat.le_refl _) (fun _ _ _ => rfl) q.2.1, q.2.2⟩
theorem zmK_lt : ∀ i, i < 381 → zmK i < 16 := by decide +kernel
theorem okY_f {i : Nat} (hi : i < 380) : okw (zpC i) (.code (zmY i) (zmC i) (zmL i) (zmR i)) = true ∧ (zmS i = true → okw (zpI i) (.static (zmY i)) = true) ∧ (zmS i = false → okw (zpI i) (.instanceMethod (zmY i)) = true) ∧ (zmS i = false → zmI i = false → okw (zpS i) (.selects (zcN (zmK i)) (zmY i) (zmY i)) = true) ∧ okw (zpN i) (.initialized (zmY i).cls) = true ∧ (zmY i).cls = zcN (zmK i) ∧ plainFor (zmY i) = true ∧ (zmY i).cls ≠ "java/lang/invoke/MethodHandle" ∧ (zmY i).cls ≠ "java/lang/invoke/VarHandle" ∧ (parseMethodDescriptor (zmY i).desc).map (fun d => d.parameters.length) = some (if zmS i then zmA i else zmA i - 1) ∧ (0 < zmA i ∨ zmS i = true) ∧ (zmI i = true ↔ (zmY i).name = "<init>") ∧ zmR i = (if zmT i = 0 then none else if zmT i = 1 then some .int else if zmT i = 2 then some .long else some .boolean) ∧ zmT i ≤ 3 := by
  have h := okZ_all i (by omega)
  unfold okZ at h
  rw [if_neg (by omega)] at h
  simp only [Bool.and_eq_true, decide_eq_true_eq] at h
  obtain ⟨⟨⟨⟨⟨⟨⟨⟨⟨h1, h2⟩, h3⟩, h4⟩, h5⟩, h6, h7, h8⟩, h10⟩, h11⟩, h12⟩, h13⟩ := h
  have hk := zmK_lt i (by omega)
  obtain ⟨c1, c2, c3⟩ := zcN_ok (zmK i) hk
  refine ⟨h1, fun q => ?_, fun q => ?_, fun q q' => ?_, h4, h5, ?_, by rw [h5]; exact c1, by rw [h5]; exact c2, by rw [h6, zdsc_ok _ h7, h8], h10, h11, h12, h13⟩
  · simpa [q] using h2
  · simpa [q] using h2
  · simpa [q, q'] using h3
  · by_cases hj : i < 375
    · exact plainFor_of_name (by rw [h5]; exact c3 (zmK_j i hj).1 (zmK_j i hj).2)
    · exact zpf_ok i (by omega) hi
theorem law_top : ∀ i, i < 381 → zmH i + 1 ≤ 11 → i < 380 := by decide +kernel
theorem zmH_le : ∀ i, i < 381 → zmH i ≤ 11 := by decide +kernel
set_option maxHeartbeats 4000000 in
/-- a contract out of the numbers -/
theorem met_of (l : Launch) {D : va_G} {cA : Nat → ClassId} {A : Nat → Prop} {sp : Nat × Nat × Nat} {Ls : Nat} {xs : Nat → Int32} {adV : Nat → Nat} {b : Bool} {n : Nat}
    (ih : ∀ (mi pc : Nat) (al st : List AV) (h : HP) (Q : PQ), wp b n mi pc al st h Q → ∀ {p : Program} {e : Env} {R : Room} {s : State} {m : MethodId} {args : Array Value} {below : List Frame} {meth : Method} {c : Code} {Qf : State → Prop} {c0 s0 a0 : Nat} {ρ0 : Nat → Nat} {aE : Nat}, Cx p R s m meth c D cA A sp Ls xs adV mi → Rt p l e R s m args below meth c Qf D cA A sp Ls xs b c0 s0 a0 ρ0 mi Q → (∀ r h', Q r h' → zA b h' ≤ aE) → c0 + (aE - a0) ≤ R.cells → s0 + (zsS aE - zsS a0) ≤ R.slots → Go p l e R s m args below meth c Qf D cA A sp Ls xs b c0 s0 a0 ρ0 mi pc al st h)
    {mj : Nat} {as : List AV} {h h' : HP} {r : Option AV} {ρ : Nat → Nat} (hm : mj < 380) (hlay : (lay as).length ≤ zmL mj) (hok : ∀ v ∈ as, okv (zA b h) v) (hle : zA b h ≤ zA b h')
    (hw : wp b n mj 0 (zent mj as) [] h (fun r2 h2 => r2 = r ∧ h2 = h')) :
    Met l (zmY mj) (zcode (zmY mj) (zmC mj) (zmL mj) (zmR mj)) { frames := zmH mj, cells := zA b h' - zA b h, slots := zsS (zA b h') - zsS (zA b h), locals := zmW mj } (CP D cA A sp Ls xs adV b ρ h as) (CQ D cA A sp Ls xs b ρ (zA b h) r h') (zA b h' - zA b h) (zsS (zA b h') - zsS (zA b h)) A := by
  obtain ⟨y1, y2, y3, y4, y5, y6, y7, y8, y9, y10, y11, y12, y13, y14⟩ := okY_f hm
  refine va_MetF (cc := zmC mj) (maxL := zmL mj) (ret := zmR mj) y7 rfl ?_
  intro p e s m args below meth c s₁ B hml hv
  obtain ⟨rfl, S, hH⟩ := hv
  have hr := B.returns
  have hlocks := B.notSynchronized
  have hown : s.vm.findClass (zcN (zmK mj)) = some m.cls := by rw [← y6]; exact findClass_of_methodNamed B.named
  have C : Cx p { frames := zmH mj, cells := zA b h' - zA b h, slots := zsS (zA b h') - zsS (zA b h), locals := zmW mj } s m meth c D cA A sp Ls xs adV mj := ⟨B.exec, B.bytes, hown, hml, S, (name_of_methodNamed B.named B.method).1, by omega, Nat.le_refl _, Nat.le_refl _⟩
  have hlen : (lay as).length = (lg_sl (as.map (vl ρ))).length := (lay_len as).symm
  have G := ih mj 0 (zent mj as) [] h _ hw (p := p) (e := e) (s := s) (m := m) (args := (as.map (vl ρ)).toArray) (below := below) (meth := meth) (c := c) (Qf := MQ below (CQ D cA A sp Ls xs b ρ (zA b h) r h') (as.map (vl ρ)).toArray s (zA b h' - zA b h) (zsS (zA b h') - zsS (zA b h)) A) (c0 := 0) (s0 := 0) (a0 := zA b h) (ρ0 := ρ) (aE := zA b h') C ?_ (fun r2 h2 q => by rw [q.2]; exact Nat.le_refl _) (by simp) (by simp)
  · have G2 := G ρ s.heap [] _ hH va_S.rf (LV.entry hok hlay) (fun v hv => by cases hv) (Nat.le_refl _) (fun _ _ => rfl) (by simp [zent]; omega)
    rw [lg_entry_eq]
    simp only [Nat.sub_self, Nat.zero_add, List.map_nil] at G2
    exact G2
  · intro r2 h2 ρ' H locs ls pc' hq hH' hS' hok' ha' hρ' hrk
    obtain ⟨rfl, rfl⟩ := hq
    simp only [Nat.zero_add]
    have hpost : ∀ t : State, t.heap = H → CQ D cA A sp Ls xs b ρ (zA b h) r2 h2 (as.map (vl ρ)).toArray s (.returned (r2.map (vl ρ'))) t := fun t ht => ⟨⟨ρ', rfl, by rw [ht]; exact hH', hρ', hok'⟩, hS'.F ht⟩
    rcases r2 with _ | v | v | v
    · obtain ⟨d1, d2⟩ := hrk
      rw [y13, if_pos d2] at hr
      exact W.vret B.exec B.bytes hr (fun t ht _ => hpost t ht) hS'.2.2 d1
    · obtain ⟨d1, d2⟩ := hrk
      rcases d2 with d2 | ⟨d2, d3⟩
      · rw [y13, if_neg (by omega), if_pos d2] at hr
        exact W.iret B.exec B.bytes hr (fun t ht _ => hpost t ht) hS'.2.2 d1
      · rw [y13, if_neg (by omega), if_neg (by omega), if_neg (by omega)] at hr
        exact W.zret B.exec B.bytes hr (by rcases d3 with rfl | rfl <;> rfl) (fun t ht _ => hpost t ht) hS'.2.2 d1
    · obtain ⟨d1, d2⟩ := hrk
      rw [y13, if_neg (by omega), if_neg (by omega), if_pos d2] at hr
      exact W.lret B.exec B.bytes hr (fun t ht _ => hpost t ht) hS'.2.2 d1
    · exact hrk.elim
