section STR2
variable {D : va_G} {cA : Nat → ClassId} {A : Nat → Prop} {sp : Nat × Nat × Nat} {Ls : Nat} {xs : Nat → Int32} {adV : Nat → Nat}
theorem ZLen_le : ∀ i, i < 2 → ZLen.getD i 0 ≤ 132 := by decide +kernel
theorem ZLen_lt : ∀ i, i < 2 → ZLen.getD i 0 < 200 ∧ ZLen.getD i 0 = (zstr (2000 + i)).length := by decide +kernel
theorem ZByt_at : ∀ i, i < 2 → ∀ j, j < 132 → j < ZLen.getD i 0 → (((ZByt.getD i []).getD j 0 &&& 255).toUInt32 % 65536).toInt32 = Int32.ofInt ((zstr (2000 + i)).getD j 0) ∧ 0 ≤ (zstr (2000 + i)).getD j 0 ∧ (zstr (2000 + i)).getD j 0 < 128 ∧ narrow .char (.int (Int32.ofInt ((zstr (2000 + i)).getD j 0))) = .int (Int32.ofInt ((zstr (2000 + i)).getD j 0)) := by decide +kernel
set_option maxRecDepth 100000 in
/-- StringLatin1.charAt -/
theorem c_l1char (l : Launch) (i j : Nat) (hi : i < 2) (hj : j < ZLen.getD i 0) : Met l zyL1 (zcode zyL1 prog_17_method_2_code 2 (some .char)) { frames := 2, cells := 0, slots := 0, locals := 43 } (SP D cA A sp Ls xs adV [.ref (adV i), .int (Int32.ofInt (j : Int))]) (SQ (.int (Int32.ofInt ((zstr (2000 + i)).getD j 0))) A) 0 0 A := by
  refine va_MetF (cc := prog_17_method_2_code) (maxL := 2) (ret := some .char) (by decide +kernel) rfl ?_
  intro p e s m args below meth c s₁ B hml hv
  obtain ⟨rfl, S⟩ := hv
  have hx := B.exec
  have hb := B.bytes
  have hr := B.returns
  have hlocks := B.notSynchronized
  have hown : s.vm.findClass "java/lang/StringLatin1" = some m.cls := findClass_of_methodNamed B.named
  have hS : va_S A s.heap s.heap [] := va_S.rf
  obtain ⟨z1, -⟩ := ZLen_lt i hi
  obtain ⟨y1, y2, y3, y4⟩ := ZByt_at i hi j (Nat.lt_of_lt_of_le hj (ZLen_le i hi)) hj
  have hj32 : in32 (j : Int) := by unfold in32; omega
  have hn32 : in32 ((ZLen.getD i 0 : Nat) : Int) := by unfold in32; omega
  have hT := (S.S5.1 i hi).2.2.2
  have hl := lv_entry ([.ref (adV i), .int (Int32.ofInt (j : Int))]) (n := 2) (Nat.le_of_ble_eq_true rfl)
  rw [lg_entry_eq]
  generalize (lg_sl ([.ref (adV i), .int (Int32.ofInt (j : Int))]) ++ List.replicate (2 - (lg_sl ([.ref (adV i), .int (Int32.ofInt (j : Int))])).length) Slot.unset).toArray = ls at hl ⊢
  have hl : lv_has ls 2 [(0, .ref (adV i)), (1, .int (Int32.ofInt (j : Int)))] := hl
  refine lv_iload_n (k := 1) hx hb (by decide +kernel) rfl (lv_at hl 1 rfl) ?_
  refine lv_aload_n (k := 0) hx hb (by decide +kernel) rfl (lv_at hl 0 rfl) ?_
  refine va_tlen (v := Int32.ofInt ((ZLen.getD i 0 : Nat) : Int)) hx hb hT hS rfl (by decide +kernel) ?_
  refine xcall (va_runS (As := [.int (Int32.ofInt (j : Int)), .int (Int32.ofInt ((ZLen.getD i 0 : Nat) : Int))]) (rest := []) (Ts := zTs) ⟨hx, hb, hml, hown, S.ts _⟩ (c_scheck l _ _ (i32_nn hj32 (by omega)) ((i32_lt hj32 hn32).mpr (by omega))) ⟨callB_of 2 (S.ts _) (zcode_good (by decide +kernel)) rfl rfl rfl (S.word (w := .initialized "java/lang/String") (by decide +kernel) rfl _) (S.word (w := .methodLink "java/lang/StringLatin1" 9 zyCk) (by decide +kernel) rfl _) (by decide +kernel) ⟨by decide, by decide⟩, S.word (w := .static zyCk) (by decide +kernel) rfl _⟩ (SP_s S hS) rfl rfl hl.1 rfl (lv_room (Nat.le_of_ble_eq_true rfl)) (show decode prog_17_method_2_code 3 = .ok (.invokestatic 9, 3) by decide +kernel) ⟨by decide, by decide⟩) hS (fun _ _ _ h => h.2.2) (fun v st t H1 locs1 h2 h3 h4 h5 h6 => ?_)
  obtain ⟨h7, h8, -⟩ := h5
  cases h7
  refine lv_aload_n (k := 0) hx hb (by decide +kernel) rfl (lv_at hl 0 rfl) ?_
  refine lv_iload_n (k := 1) hx hb (by decide +kernel) rfl (lv_at hl 1 rfl) ?_
  refine va_tb (v := .int ((ZByt.getD i []).getD j 0)) hx hb hT h6 (i32_vin hj32 (by omega) (by omega)) (by rw [i32_cl hj32]; simp) (by decide +kernel) ?_
  refine lv_sipush (v := 255) hx hb (n := 255) (by decide +kernel) (by decide) ?_
  refine lv_iand hx hb (by decide +kernel) ?_
  refine lv_i2c hx hb (by decide +kernel) y1 ?_
  exact W.zret hx hb hr y4 (fun t' ht _ => ⟨rfl, by rw [ht, ← h2, h8, h3], h6.F ht⟩) h6.2.2 (by decide +kernel)
theorem SP_v {s : State} {H : Heap} {locs : List Loc} {i : Nat} {as : List Value} (hi : i < 2) (S : SS D cA A sp Ls xs adV s) (hS : va_S A s.heap H locs) : PreV s H "java/lang/String" (adK sp i) (SP D cA A sp Ls xs adV (.ref (adK sp i) :: as)) as := by
  obtain ⟨cell, h1, h2, h3, -⟩ := (S.S5.1 i hi).1.kept hS.2.1
  exact ⟨SP.blind, ⟨cell, h1, h2, h3⟩, fun U hU hW => ⟨rfl, S.moved hW (by rw [hU]; exact hS.1) (fun q h1 h2 => by rw [hU]; exact hS.2.1 q h1 h2)⟩⟩
set_option maxRecDepth 100000 in
/-- length() -/
theorem c_length (l : Launch) (i : Nat) (hi : i < 2) : Met l zNm_length (zcode zNm_length prog_16_method_54_code 1 (some .int)) { frames := 1, cells := 0, slots := 0, locals := 20 } (SP D cA A sp Ls xs adV [.ref (adK sp i)]) (SQ (.int (Int32.ofInt ((zstr (2000 + i)).length : Nat))) A) 0 0 A := by
  refine va_MetF (cc := prog_16_method_54_code) (maxL := 1) (ret := some .int) (by decide +kernel) rfl ?_
  intro p e s m args below meth c s₁ B hml hv
  obtain ⟨rfl, S⟩ := hv
  have hx := B.exec
  have hb := B.bytes
  have hr := B.returns
  have hlocks := B.notSynchronized
  have hown : s.vm.findClass "java/lang/String" = some m.cls := findClass_of_methodNamed B.named
  have hS : va_S A s.heap s.heap [] := va_S.rf
  obtain ⟨z1, z2⟩ := ZLen_lt i hi
  have hT := (S.S5.1 i hi).2.2.2
  have hl := lv_entry ([.ref (adK sp i)]) (n := 1) (Nat.le_of_ble_eq_true rfl)
  rw [lg_entry_eq]
  generalize (lg_sl ([.ref (adK sp i)]) ++ List.replicate (1 - (lg_sl ([.ref (adK sp i)])).length) Slot.unset).toArray = ls at hl ⊢
  have hl : lv_has ls 1 [(0, .ref (adK sp i))] := hl
  refine lv_aload_n (k := 0) hx hb (by decide +kernel) rfl (lv_at hl 0 rfl) ?_
  refine va_getX (v := fun i => .ref (adV i)) (ad := adK sp) hx hb (fun j hj => (S.S5.1 j hj).2.2.1) hi hS hown (S.word (w := .fieldLink "java/lang/String" 9 "java/lang/String" "value" "[B") (by decide +kernel) rfl _) (fun _ h => h) (by decide +kernel) ?_
  refine va_tlen (v := Int32.ofInt ((ZLen.getD i 0 : Nat) : Int)) hx hb hT hS rfl (by decide +kernel) ?_
  refine lv_aload_n (k := 0) hx hb (by decide +kernel) rfl (lv_at hl 0 rfl) ?_
  refine xcall (va_runV (As := []) (rest := [.int (Int32.ofInt ((ZLen.getD i 0 : Nat) : Int))]) (Ts := zTs) ⟨hx, hb, hml, hown, S.ts _⟩ (c_coder l i hi) ⟨callB_of 0 (S.ts _) (zcode_good (by decide +kernel)) rfl rfl rfl (S.word (w := .initialized "java/lang/String") (by decide +kernel) rfl _) (S.word (w := .methodLink "java/lang/String" 335 zyCo) (by decide +kernel) rfl _) (by decide +kernel) ⟨by decide, by decide⟩, S.word (w := .instanceMethod zyCo) (by decide +kernel) rfl _, S.word (w := .selects "java/lang/String" zyCo zyCo) (by decide +kernel) rfl _⟩ (SP_v hi S hS) rfl rfl hl.1 rfl (lv_room (Nat.le_of_ble_eq_true rfl)) (show decode prog_16_method_54_code 6 = .ok (.invokevirtual 335, 3) by decide +kernel) ⟨by decide, by decide⟩) hS (fun _ _ _ h => h.2.2) (fun v st t H1 locs1 h2 h3 h4 h5 h6 => ?_)
  obtain ⟨h7, h8, -⟩ := h5
  cases h7
  refine lv_ishr hx hb (by decide +kernel) ?_
  have e1 : Int32.ofInt ((ZLen.getD i 0 : Nat) : Int) >>> ((0 : Int32) &&& 31) = Int32.ofInt ((zstr (2000 + i)).length : Nat) := by rw [sb_shr0, z2]
  rw [e1]
  exact W.iret hx hb hr (fun t' ht _ => ⟨rfl, by rw [ht, ← h2, h8, h3], h6.F ht⟩) h6.2.2 (by decide +kernel)
set_option maxRecDepth 100000 in
/-- charAt(j) -/
theorem c_charAt (l : Launch) (i j : Nat) (hi : i < 2) (hj : j < ZLen.getD i 0) : Met l zNm_charAt (zcode zNm_charAt prog_16_method_56_code 2 (some .char)) { frames := 3, cells := 0, slots := 0, locals := 64 } (SP D cA A sp Ls xs adV [.ref (adK sp i), .int (Int32.ofInt (j : Int))]) (SQ (.int (Int32.ofInt ((zstr (2000 + i)).getD j 0))) A) 0 0 A := by
  refine va_MetF (cc := prog_16_method_56_code) (maxL := 2) (ret := some .char) (by decide +kernel) rfl ?_
  intro p e s m args below meth c s₁ B hml hv
  obtain ⟨rfl, S⟩ := hv
  have hx := B.exec
  have hb := B.bytes
  have hr := B.returns
  have hlocks := B.notSynchronized
  have hown : s.vm.findClass "java/lang/String" = some m.cls := findClass_of_methodNamed B.named
  have hS : va_S A s.heap s.heap [] := va_S.rf
  obtain ⟨z1, -⟩ := ZLen_lt i hi
  obtain ⟨y1, y2, y3, y4⟩ := ZByt_at i hi j (Nat.lt_of_lt_of_le hj (ZLen_le i hi)) hj
  have hl := lv_entry ([.ref (adK sp i), .int (Int32.ofInt (j : Int))]) (n := 2) (Nat.le_of_ble_eq_true rfl)
  rw [lg_entry_eq]
  generalize (lg_sl ([.ref (adK sp i), .int (Int32.ofInt (j : Int))]) ++ List.replicate (2 - (lg_sl ([.ref (adK sp i), .int (Int32.ofInt (j : Int))])).length) Slot.unset).toArray = ls at hl ⊢
  have hl : lv_has ls 2 [(0, .ref (adK sp i)), (1, .int (Int32.ofInt (j : Int)))] := hl
  refine lv_aload_n (k := 0) hx hb (by decide +kernel) rfl (lv_at hl 0 rfl) ?_
  refine xcall (va_runV (As := []) (rest := []) (Ts := zTs) ⟨hx, hb, hml, hown, S.ts _⟩ (c_isLatin1 l i hi) ⟨callB_of 0 (S.ts _) (zcode_good (by decide +kernel)) rfl rfl rfl (S.word (w := .initialized "java/lang/String") (by decide +kernel) rfl _) (S.word (w := .methodLink "java/lang/String" 492 zyLa) (by decide +kernel) rfl _) (by decide +kernel) ⟨by decide, by decide⟩, S.word (w := .instanceMethod zyLa) (by decide +kernel) rfl _, S.word (w := .selects "java/lang/String" zyLa zyLa) (by decide +kernel) rfl _⟩ (SP_v hi S hS) rfl rfl hl.1 rfl (lv_room (Nat.le_of_ble_eq_true rfl)) (show decode prog_16_method_56_code 1 = .ok (.invokevirtual 492, 3) by decide +kernel) ⟨by decide, by decide⟩) hS (fun _ _ _ h => h.2.2) (fun v st t H1 locs1 h2 h3 h4 h5 h6 => ?_)
  obtain ⟨h7, h8, -⟩ := h5
  cases h7
  refine lv_if_eq (tgt := 16) hx hb (off := 12) (by decide +kernel) (by decide) (fun q => absurd q (by decide)) (fun _ => ?_)
  refine lv_aload_n (k := 0) hx hb (by decide +kernel) rfl (lv_at hl 0 rfl) ?_
  refine va_getX (v := fun i => .ref (adV i)) (ad := adK sp) hx hb (fun j hj => (S.S5.1 j hj).2.2.1) hi h6 hown (S.word (w := .fieldLink "java/lang/String" 9 "java/lang/String" "value" "[B") (by decide +kernel) rfl _) (fun _ h => h) (by decide +kernel) ?_
  refine lv_iload_n (k := 1) hx hb (by decide +kernel) rfl (lv_at hl 1 rfl) ?_
  refine xcall (va_runS (As := [.ref (adV i), .int (Int32.ofInt (j : Int))]) (rest := []) (Ts := zTs) ⟨hx, hb, hml, hown, S.ts _⟩ (c_l1char l i j hi hj) ⟨callB_of 2 (S.ts _) (zcode_good (by decide +kernel)) rfl rfl rfl (S.word (w := .initialized "java/lang/StringLatin1") (by decide +kernel) rfl _) (S.word (w := .methodLink "java/lang/String" 495 zyL1) (by decide +kernel) rfl _) (by decide +kernel) ⟨by decide, by decide⟩, S.word (w := .static zyL1) (by decide +kernel) rfl _⟩ (SP_s S h6) rfl rfl hl.1 rfl (lv_room (Nat.le_of_ble_eq_true rfl)) (show decode prog_16_method_56_code 12 = .ok (.invokestatic 495, 3) by decide +kernel) ⟨by decide, by decide⟩) h6 (fun _ _ _ h => h.2.2) (fun v st' t' H2 locs2 g2 g3 g4 g5 g6 => ?_)
  obtain ⟨g7, g8, -⟩ := g5
  cases g7
  exact W.zret hx hb hr y4 (fun t'' ht _ => ⟨rfl, by rw [ht, ← g2, g8, g3, ← h2, h8, h3], g6.F ht⟩) g6.2.2 (by decide +kernel)
end STR2
