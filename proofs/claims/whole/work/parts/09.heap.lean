/-! ===== tables' facts ===== -/
def okX (x : Nat) : Bool := (u_ws (zcN x) (zTX x) (zfN x)).all (fun w => decide (w ∈ lw_tbl) && goodWord w) &&
  (List.range (zfN x)).all (fun y => decide (parseFieldDescriptor (zTX x y).2.2.1 = some (zTY x y)) && decide ((zTX x y).1 = zcN x) &&
    (List.range (zfN x)).all (fun z => decide (y = z ∨ (zTX x y).2.1 ≠ (zTX x z).2.1)) &&
    (if zfk (64 * x + y) = 0 then decide (zTY x y = .int ∧ (zTX x y).2.2.2 = false) else if zfk (64 * x + y) = 1 then decide (zTY x y = .long ∧ (zTX x y).2.2.2 = false) else if zfk (64 * x + y) = 3 then decide (zTY x y = .boolean ∧ (zTX x y).2.2.2 = false) else decide (zfk (64 * x + y) = 4) && refKind (zTY x y) && decide ((zTX x y).2.2.2 = true)))
theorem okX_all : ∀ x, x < 13 → okX x = true := by decide +kernel
theorem vwCl_at : ∀ x, x < 13 → vwCl[x]? = some (zcN x, zTX x, zfN x) := by
  intro x hx
  rcases (show x = 0 ∨ x = 1 ∨ x = 2 ∨ x = 3 ∨ x = 4 ∨ x = 5 ∨ x = 6 ∨ x = 7 ∨ x = 8 ∨ x = 9 ∨ x = 10 ∨ x = 11 ∨ x = 12 by omega) with e | e | e | e | e | e | e | e | e | e | e | e | e <;> subst e <;> rfl
theorem goodAll : lw_tbl.all (fun w => goodWord w || (match w with
  | .methodLinkNest _ _ _ _ => true
  | .stringRef _ _ _ => true
  | .arrayOver _ => true
  | .soleField _ _ => true
  | .privateMethod _ => true
  | .laysStatic _ _ _ => true
  | .superclass _ _ => true
  | _ => false)) = true := by decide +kernel
def zTs : List Jvm.Cond := lw_tbl.filter goodWord
theorem okw_mem {z : Nat} {w : Jvm.Cond} (h : okw z w = true) : w ∈ lw_tbl := List.mem_of_getElem? (of_decide_eq_true h)
theorem SS.word {D : va_G} {cA : Nat → ClassId} {A : Nat → Prop} {sp : Nat × Nat × Nat} {Ls : Nat} {xs : Nat → Int32} {adV : Nat → Nat} {s : State} (S : SS D cA A sp Ls xs adV s) {w : Jvm.Cond} (hw : w ∈ lw_tbl) (hg : goodWord w = true) (args : Array Value) : w.before args s = true :=
  word_at (State.WarmedH.refl s) (good_of_word hg) (S.1 w hw hg)
theorem SS.ts {D : va_G} {cA : Nat → ClassId} {A : Nat → Prop} {sp : Nat × Nat × Nat} {Ls : Nat} {xs : Nat → Int32} {adV : Nat → Nat} {s : State} (S : SS D cA A sp Ls xs adV s) (args : Array Value) : ∀ w ∈ zTs, w.before args s = true := fun w hw => S.word (List.mem_filter.mp hw).1 (List.mem_filter.mp hw).2 args
theorem zTs_good {ws : List Jvm.Cond} (h : ∀ w ∈ ws, w ∈ lw_tbl ∧ goodWord w = true) : GoodIn zTs ws := fun w hw => ⟨List.mem_filter.mpr (h w hw), good_of_word (h w hw).2⟩
theorem okX_ws {x : Nat} (hx : x < 13) : ∀ w ∈ u_ws (zcN x) (zTX x) (zfN x), w ∈ zTs := by
  intro w hw
  have h := okX_all x hx
  unfold okX at h
  rw [Bool.and_eq_true] at h
  have h1 := List.all_eq_true.mp h.1 w hw
  simp only [Bool.and_eq_true, decide_eq_true_eq] at h1
  exact List.mem_filter.mpr h1
theorem okX_f {x y : Nat} (hx : x < 13) (hy : y < zfN x) : parseFieldDescriptor (zTX x y).2.2.1 = some (zTY x y) ∧ (zTX x y).1 = zcN x ∧ (∀ z, z < zfN x → y ≠ z → (zTX x y).2.1 ≠ (zTX x z).2.1) ∧
    (zfk (64 * x + y) = 0 → zTY x y = .int ∧ (zTX x y).2.2.2 = false) ∧ (zfk (64 * x + y) = 1 → zTY x y = .long ∧ (zTX x y).2.2.2 = false) ∧ (zfk (64 * x + y) = 3 → zTY x y = .boolean ∧ (zTX x y).2.2.2 = false) ∧ (zfk (64 * x + y) = 4 → refKind (zTY x y) = true ∧ (zTX x y).2.2.2 = true) ∧ (zfk (64 * x + y) = 0 ∨ zfk (64 * x + y) = 1 ∨ zfk (64 * x + y) = 3 ∨ zfk (64 * x + y) = 4) := by
  have h := okX_all x hx
  unfold okX at h
  rw [Bool.and_eq_true] at h
  have h1 := List.all_eq_true.mp h.2 y (List.mem_range.mpr hy)
  simp only [Bool.and_eq_true, decide_eq_true_eq, List.all_eq_true, List.mem_range] at h1
  obtain ⟨⟨⟨h2, h3⟩, h4⟩, h5⟩ := h1
  refine ⟨h2, h3, fun z hz hne => (h4 z hz).resolve_left hne, ?_⟩
  split at h5
  · rename_i q
    simp only [decide_eq_true_eq] at h5
    simp [q, h5]
  · split at h5
    · rename_i q
      simp only [decide_eq_true_eq] at h5
      simp [q, h5]
    · split at h5
      · rename_i q
        simp only [decide_eq_true_eq] at h5
        simp [q, h5]
      · simp only [Bool.and_eq_true, decide_eq_true_eq] at h5
        simp [h5]
theorem okX_ty {x : Nat} (hx : x < 13) : ∀ k, k < zfN x → parseFieldDescriptor (zTX x k).2.2.1 = some (zTY x k) := fun k hk => (okX_f hx hk).1
theorem okX_nm {x : Nat} (hx : x < 13) : ∀ a, a < zfN x → ∀ b, b < zfN x → a ≠ b → (zTX x a).2.1 ≠ (zTX x b).2.1 := fun a ha b hb hne => (okX_f hx ha).2.2.1 b hb hne
theorem ref_in : ∀ k, k < 123 → ∀ y, y < 64 → zck k < 13 → zfk (64 * zck k + y) = 4 → k + zfo (64 * zck k + y) < 123 := by decide +kernel
theorem kinds : ∀ k, k < 123 → (zck k < 13 ∨ zck k = 20 ∨ zck k = 21 ∨ zck k = 22 ∨ zck k = 23 ∨ zck k = 24) ∧ ((zck k = 23 ∨ zck k = 24) → zcn k = 3 ∧ zrb k + 28 < 123) ∧ zcn k ≤ 4480 := by decide +kernel
theorem zck_of {a k : Nat} (h : okv a (vr k)) (hc : zck k ≠ 99) : k < a := by
  have hk := zck_lt k hc
  rcases h with h | h | h | h
  · exact h
  · omega
  · omega
  · omega
theorem okh_32 {b : Bool} {h : HP} (H : okh b h) {k j : Nat} (hk : k < zA b h) (hd : zkd k j = 0 ∨ zkd k j = 2 ∨ zkd k j = 3) : in32 (h k j) := by
  have := H.2.1 k hk j
  unfold rgk at this
  unfold in32 at this ⊢
  rcases hd with e | e | e <;> simp [e] at this <;> omega
theorem okh_64 {b : Bool} {h : HP} (H : okh b h) {k j : Nat} (hk : k < zA b h) (hd : zkd k j = 1) : in64 (h k j) := by
  have := H.2.1 k hk j
  unfold rgk at this
  simp [hd] at this
  exact this
theorem okh_hs {b : Bool} {h : HP} (H : okh b h) {k i : Nat} {v : Int} (hk : k < zA b h) (hr : rgk (zkd k i) v) (hf : b = false → v = 1 → (zck k < 20 → zfk (64 * zck k + i) = 4 → k + zfo (64 * zck k + i) < zA b h) ∧ (zck k = 23 ∨ zck k = 24 → zrb k + 14 * i < zA b h)) : okh b (hs h k i v) := by
  have hK := H.1
  rw [zK_eq] at hK
  have hz : zA b (hs h k i v) = zA b h := zA_hs (by omega)
  refine ⟨by rw [hz]; exact H.1, fun k' hk' j => ?_, fun hb => ⟨fun k' h1 h2 j => ?_, fun k' hk' j hj => ?_⟩⟩
  · rw [hz] at hk'
    by_cases e : k' = k ∧ j = i
    · obtain ⟨rfl, rfl⟩ := e
      simpa [hs] using hr
    · have : hs h k i v k' j = h k' j := by simp only [hs, if_neg e]
      rw [this]
      exact H.2.1 k' hk' j
  · rw [hz] at h1
    have : hs h k i v k' j = h k' j := by
      have : ¬ (k' = k ∧ j = i) := by omega
      simp only [hs, if_neg this]
    rw [this]
    exact (H.2.2 hb).1 k' h1 h2 j
  · rw [hz] at hk' ⊢
    by_cases e : k' = k ∧ j = i
    · obtain ⟨rfl, rfl⟩ := e
      simp [hs] at hj
      exact hf hb hj
    · have : hs h k i v k' j = h k' j := by simp only [hs, if_neg e]
      rw [this] at hj
      exact (H.2.2 hb).2 k' hk' j hj
theorem HK_hs {D : va_G} {cA : Nat → ClassId} {A : Nat → Prop} {sp : Nat × Nat × Nat} {Ls : Nat} {xs : Nat → Int32} {b : Bool} {ρ : Nat → Nat} {h : HP} {H H1 : Heap} {k i : Nat} {v : Int} {E : va_E} (hH : HK D cA A sp Ls xs b ρ h H) (hk : k < zA b h) (hr : rgk (zkd k i) v) (hf : b = false → v = 1 → (zck k < 20 → zfk (64 * zck k + i) = 4 → k + zfo (64 * zck k + i) < zA b h) ∧ (zck k = 23 ∨ zck k = 24 → zrb k + 14 * i < zA b h))
    (hE : E = wdc ρ cA b ((hs h k i v) k) k) (h1 : va_P D vwCl ((wd ρ cA b h).set k (ρ k, E)) H1) (h2 : va_D A ((wd ρ cA b h).set k (ρ k, E))) : HK D cA A sp Ls xs b ρ (hs h k i v) H1 := by
  obtain ⟨-, -, g3, g4, g5, g6, g7, g8, g9⟩ := hH
  have hK := g3.1
  rw [zK_eq] at hK
  have hz : zA b (hs h k i v) = zA b h := zA_hs (by omega)
  subst hE
  rw [wd_upd hz (fun k' hk' => hs_ne hk')] at h1 h2
  refine ⟨h1, h2, okh_hs g3 hk hr hf, g4, g5, g6, ?_, ?_, g9⟩
  · rw [hs_ne (by omega)]; exact g7
  · rw [hs_ne (by omega)]; exact g8
section GOH
variable {p : Program} {l : Launch} {e : Env} {R : Room} {s : State} {m : MethodId} {args : Array Value} {below : List Frame} {meth : Method} {c : Code} {Qf : State → Prop} {D : va_G} {cA : Nat → ClassId} {A : Nat → Prop} {sp : Nat × Nat × Nat} {Ls : Nat} {xs : Nat → Int32} {adV : Nat → Nat} {b : Bool} {c0 s0 a0 : Nat} {ρ0 : Nat → Nat} {mi pc : Nat} {al st : List AV} {h : HP}
theorem go_iald {k : Nat} {i : Int} (C : Cx p R s m meth c D cA A sp Ls xs adV mi) (hd : decode (zmC mi) pc = .ok (.iaload, 1)) (hc : zck k = 20) (h0 : 0 ≤ i) (h1 : i < zcn k)
    (K : Go p l e R s m args below meth c Qf D cA A sp Ls xs b c0 s0 a0 ρ0 mi (pc + 1) al (vi (h k i.toNat) :: st) h) : Go p l e R s m args below meth c Qf D cA A sp Ls xs b c0 s0 a0 ρ0 mi pc al (vi i :: vr k :: st) h := by
  refine go_nh rfl (fun ρ H locs ls cells slots hH hS hL hst k2 => ?_) K
  have hi : in32 i := (okv_c hst).1
  have hk : k < zA b h := zck_of (okv_c (okv_c hst).2).1 (by omega)
  have hw : (wd ρ cA b h)[k]? = some (ρ k, .inl (cA 20, zcn k, .inl (fun j => Int32.ofInt (h k j)))) := by rw [wd_at hk]; simp [wdc, hc]
  refine va_iald C.1 C.2.1 C.2.2.2.2.1.2.2.2.2.2.2.2.1 hH.1 k 0 hw rfl (i32_vin hi h0 h1) hd ?_
  rw [i32_cl hi]
  exact k2 ls hL (okv_p (show okv _ (vi (h k i.toNat)) from okh_32 hH.2.2.1 hk (Or.inl (by simp [zkd, hc]))) (okv_c (okv_c hst).2).2)
theorem go_bald {k : Nat} {i : Int} (C : Cx p R s m meth c D cA A sp Ls xs adV mi) (hd : decode (zmC mi) pc = .ok (.baload, 1)) (hc : zck k = 22) (h0 : 0 ≤ i) (h1 : i < zcn k)
    (K : Go p l e R s m args below meth c Qf D cA A sp Ls xs b c0 s0 a0 ρ0 mi (pc + 1) al (vi (h k i.toNat) :: st) h) : Go p l e R s m args below meth c Qf D cA A sp Ls xs b c0 s0 a0 ρ0 mi pc al (vi i :: vr k :: st) h := by
  refine go_nh rfl (fun ρ H locs ls cells slots hH hS hL hst k2 => ?_) K
  have hi : in32 i := (okv_c hst).1
  have hk : k < zA b h := zck_of (okv_c (okv_c hst).2).1 (by omega)
  have hw : (wd ρ cA b h)[k]? = some (ρ k, .inl (cA 22, zcn k, .inl (fun j => Int32.ofInt (h k j)))) := by rw [wd_at hk]; simp [wdc, hc]
  refine va_bald C.1 C.2.1 C.2.2.2.2.1.2.2.2.2.2.2.2.1 hH.1 k 2 hw rfl (i32_vin hi h0 h1) hd ?_
  rw [i32_cl hi]
  exact k2 ls hL (okv_p (show okv _ (vi (h k i.toNat)) from okh_32 hH.2.2.1 hk (Or.inr (Or.inl (by simp [zkd, hc])))) (okv_c (okv_c hst).2).2)
theorem go_jald {k : Nat} {i : Int} (C : Cx p R s m meth c D cA A sp Ls xs adV mi) (hd : decode (zmC mi) pc = .ok (.laload, 1)) (hc : zck k = 21) (h0 : 0 ≤ i) (h1 : i < zcn k)
    (K : Go p l e R s m args below meth c Qf D cA A sp Ls xs b c0 s0 a0 ρ0 mi (pc + 1) al (vj (h k i.toNat) :: st) h) : Go p l e R s m args below meth c Qf D cA A sp Ls xs b c0 s0 a0 ρ0 mi pc al (vi i :: vr k :: st) h := by
  refine go_nh rfl (fun ρ H locs ls cells slots hH hS hL hst k2 => ?_) K
  have hi : in32 i := (okv_c hst).1
  have hk : k < zA b h := zck_of (okv_c (okv_c hst).2).1 (by omega)
  have hw : (wd ρ cA b h)[k]? = some (ρ k, .inl (cA 21, zcn k, .inr (.inl (fun j => Int64.ofInt (h k j))))) := by rw [wd_at hk]; simp [wdc, hc]
  refine va_lald C.1 C.2.1 C.2.2.2.2.1.2.2.2.2.2.2.2.1 hH.1 k 1 hw rfl (i32_vin hi h0 h1) hd ?_
  rw [i32_cl hi]
  exact k2 ls hL (okv_p (show okv _ (vj (h k i.toNat)) from okh_64 hH.2.2.1 hk (by simp [zkd, hc])) (okv_c (okv_c hst).2).2)
theorem go_sald {i : Int} (C : Cx p R s m meth c D cA A sp Ls xs adV mi) (hd : decode (zmC mi) pc = .ok (.iaload, 1)) (h0 : 0 ≤ i) (h1 : i < h 1001 0)
    (K : Go p l e R s m args below meth c Qf D cA A sp Ls xs b c0 s0 a0 ρ0 mi (pc + 1) al (vi (h 1000 i.toNat) :: st) h) : Go p l e R s m args below meth c Qf D cA A sp Ls xs b c0 s0 a0 ρ0 mi pc al (vi i :: vr 1000 :: st) h := by
  refine go_nh rfl (fun ρ H locs ls cells slots hH hS hL hst k2 => ?_) K
  have hi : in32 i := (okv_c hst).1
  obtain ⟨-, -, -, g4, -, -, g7, g8, -⟩ := hH
  obtain ⟨hX, hbl, hbA⟩ := C.2.2.2.2.1.2.2.2.2.2.2.2.2.1
  have hl : i.toNat < Ls := by omega
  have e1 : (vr 1000 :: st).map (vl ρ) = .ref sp.1 :: st.map (vl ρ) := by simp [vl, g4]
  show W p l e R s m args below meth c H locs cells slots Qf (F0 m pc ls (.int (Int32.ofInt i) :: (vr 1000 :: st).map (vl ρ)))
  rw [e1]
  refine va_sld C.1 C.2.1 hX hbl hbA hS (i32_vin hi h0 (by omega)) hd ?_
  rw [i32_cl hi]
  have e2 : xs i.toNat = Int32.ofInt (h 1000 i.toNat) := by rw [g8 _ hl, Int32.ofInt_toInt]
  rw [e2]
  exact k2 ls hL (okv_p (show okv _ (vi (h 1000 i.toNat)) from by rw [g8 _ hl]; exact in32_toInt _) (okv_c (okv_c hst).2).2)
theorem go_slen (C : Cx p R s m meth c D cA A sp Ls xs adV mi) (hd : decode (zmC mi) pc = .ok (.arraylength, 1))
    (K : Go p l e R s m args below meth c Qf D cA A sp Ls xs b c0 s0 a0 ρ0 mi (pc + 1) al (vi (h 1001 0) :: st) h) : Go p l e R s m args below meth c Qf D cA A sp Ls xs b c0 s0 a0 ρ0 mi pc al (vr 1000 :: st) h := by
  refine go_nh rfl (fun ρ H locs ls cells slots hH hS hL hst k2 => ?_) K
  obtain ⟨-, -, -, g4, -, -, g7, g8, g9⟩ := hH
  obtain ⟨hX, hbl, hbA⟩ := C.2.2.2.2.1.2.2.2.2.2.2.2.2.1
  have e1 : (vr 1000 :: st).map (vl ρ) = .ref sp.1 :: st.map (vl ρ) := by simp [vl, g4]
  rw [e1]
  refine va_slen C.1 C.2.1 hX hbl hbA hS hd ?_
  have e2 : Int32.ofNat Ls = Int32.ofInt (h 1001 0) := by rw [g7]; rfl
  rw [e2]
  exact k2 ls hL (okv_p (show okv _ (vi (h 1001 0)) from by rw [g7]; show in32 _; unfold in32; omega) (okv_c hst).2)
theorem go_alen {k : Nat} (C : Cx p R s m meth c D cA A sp Ls xs adV mi) (hd : decode (zmC mi) pc = .ok (.arraylength, 1)) (hc : zck k = 20 ∨ zck k = 21 ∨ zck k = 22)
    (K : Go p l e R s m args below meth c Qf D cA A sp Ls xs b c0 s0 a0 ρ0 mi (pc + 1) al (vi (zcn k : Nat) :: st) h) : Go p l e R s m args below meth c Qf D cA A sp Ls xs b c0 s0 a0 ρ0 mi pc al (vr k :: st) h := by
  refine go_nh rfl (fun ρ H locs ls cells slots hH hS hL hst k2 => ?_) K
  have hk : k < zA b h := zck_of (okv_c hst).1 (by omega)
  have hk2 : k < 123 := zck_lt k (by omega)
  have hn := (kinds k hk2).2.2
  have hK := C.2.2.2.2.1.2.2.2.2.2.2.2.1
  have hkk := k2 ls hL (okv_p (show okv _ (vi (zcn k : Nat)) from by show in32 _; unfold in32; omega) (okv_c hst).2)
  rcases hc with hc | hc | hc
  · exact va_alen C.1 C.2.1 hK hH.1 k 0 (show (wd ρ cA b h)[k]? = some (ρ k, .inl (cA 20, zcn k, .inl (fun j => Int32.ofInt (h k j)))) by rw [wd_at hk]; simp [wdc, hc]) rfl rfl hd hkk
  · exact va_alen C.1 C.2.1 hK hH.1 k 1 (show (wd ρ cA b h)[k]? = some (ρ k, .inl (cA 21, zcn k, .inr (.inl (fun j => Int64.ofInt (h k j))))) by rw [wd_at hk]; simp [wdc, hc]) rfl rfl hd hkk
  · exact va_alen C.1 C.2.1 hK hH.1 k 2 (show (wd ρ cA b h)[k]? = some (ρ k, .inl (cA 22, zcn k, .inl (fun j => Int32.ofInt (h k j)))) by rw [wd_at hk]; simp [wdc, hc]) rfl rfl hd hkk
/-- a step that writes one number of one cell -/
theorem go_wr {k i : Nat} {v : Int} {pc' : Nat} {st' : List AV}
    (row : ∀ (ρ : Nat → Nat) (H : Heap) (locs : List Loc) (ls : Array Slot) (cells slots : Nat), HK D cA A sp Ls xs b ρ h H → va_S A s.heap H locs → LV ρ (zA b h) ls al → (∀ w ∈ st, okv (zA b h) w) →
      k < zA b h ∧ (∀ w ∈ st', okv (zA b h) w) ∧ ((∀ (H1 : Heap) (locs1 : List Loc), HK D cA A sp Ls xs b ρ (hs h k i v) H1 → va_S A s.heap H1 locs1 → W p l e R s m args below meth c H1 locs1 cells slots Qf (F0 m pc' ls (st'.map (vl ρ)))) → W p l e R s m args below meth c H locs cells slots Qf (F0 m pc ls (st.map (vl ρ)))))
    (K : Go p l e R s m args below meth c Qf D cA A sp Ls xs b c0 s0 a0 ρ0 mi pc' al st' (hs h k i v)) : Go p l e R s m args below meth c Qf D cA A sp Ls xs b c0 s0 a0 ρ0 mi pc al st h := by
  intro ρ H locs ls hH hS hL hv ha hρ hn
  obtain ⟨r1, r2, r3⟩ := row ρ H locs ls (c0 + (zA b h - a0)) (s0 + (zsS (zA b h) - zsS a0)) hH hS hL hv
  have hK := hH.2.2.1.1
  rw [zK_eq] at hK
  have hz : zA b (hs h k i v) = zA b h := zA_hs (by omega)
  refine r3 (fun H1 locs1 hH1 hS1 => ?_)
  have := K ρ H1 locs1 ls hH1 hS1 (by rw [hz]; exact hL) (by rw [hz]; exact r2) (by rw [hz]; exact ha) hρ hn
  rw [hz] at this
  exact this
end GOH
