theorem sum_cat (ρ : Nat → Nat) (st : List AV) : ((st.map (vl ρ)).map fun v => v.category).sum = (st.map acat).sum := by
  induction st with
  | nil => rfl
  | cons v st ih => simp only [List.map_cons, List.sum_cons, ih, vl_cat]
section GOM
variable {p : Program} {l : Launch} {e : Env} {R : Room} {s : State} {m : MethodId} {args : Array Value} {below : List Frame} {meth : Method} {c : Code} {Qf : State → Prop} {D : va_G} {cA : Nat → ClassId} {A : Nat → Prop} {sp : Nat × Nat × Nat} {Ls : Nat} {xs : Nat → Int32} {adV : Nat → Nat} {b : Bool} {c0 s0 a0 : Nat} {ρ0 : Nat → Nat} {mi pc : Nat} {al st : List AV} {h : HP}
theorem tys_fc {s : State} {cA : Nat → ClassId} (K : va_K D vwCl (ztys cA) s) : s.vm.findClass "[I" = some (cA 20) ∧ s.vm.findClass "[J" = some (cA 21) ∧ s.vm.findClass "[B" = some (cA 22) ∧ s.vm.findClass "[LChalkRoom$Floor;" = some (cA 23) ∧ s.vm.findClass "[LChalkRoom$Talks;" = some (cA 24) := by
  refine ⟨(K.2 0 _ rfl).2, (K.2 1 _ rfl).2, (K.2 2 _ rfl).2, ?_, ?_⟩
  · obtain ⟨-, -, -, -, -, q⟩ := (K.2 3 _ rfl).2
    exact q
  · obtain ⟨-, -, -, -, -, q⟩ := (K.2 4 _ rfl).2
    exact q
theorem K_last {D : va_G} {tys : List (ClassId × FieldType)} {q : ClassId × FieldType} {s : State} (K : va_K D vwCl (tys ++ [q]) s) : va_RA s q.1 q.2 := (K.2 tys.length q (by simp)).2
theorem okw_ac : okw (lw_tbl.findIdx (fun w => decide (w = .arrayClass .int))) (.arrayClass .int) = true ∧ okw (lw_tbl.findIdx (fun w => decide (w = .arrayClass .long))) (.arrayClass .long) = true ∧ okw (lw_tbl.findIdx (fun w => decide (w = .arrayClass .byte))) (.arrayClass .byte) = true := by decide +kernel
theorem go_newai {n : Int} (C : Cx p R s m meth c D cA A sp Ls xs adV mi) (hd : decode (zmC mi) pc = .ok (.newarray .int, 2)) (hc : zck (zal h) = 20) (hK : zal h < zK) (hn : n = (zcn (zal h) : Nat))
    (hcap : c0 + (zal h + 1 - a0) ≤ R.cells ∧ s0 + (zsS (zal h + 1) - zsS a0) ≤ R.slots)
    (K : Go p l e R s m args below meth c Qf D cA A sp Ls xs false c0 s0 a0 ρ0 mi (pc + 2) al (vr (zal h) :: st) (hs h 1002 0 ((zal h + 1 : Nat) : Int))) : Go p l e R s m args below meth c Qf D cA A sp Ls xs false c0 s0 a0 ρ0 mi pc al (vi n :: st) h := by
  refine go_cell hK (fun v hv => List.mem_cons_of_mem _ hv) (fun ρ H locs ls cells slots hH hS hL hst h1 h2 k2 => ?_) hcap K
  have hS5 := C.2.2.2.2.1
  have hn32 : in32 n := (okv_c hst).1
  have hK2 := (kinds (zal h) (by rw [zK_eq] at hK; exact hK)).2.2
  have hsz : zsz (zal h) = zcn (zal h) := by unfold zsz; rw [if_neg (by omega)]
  have hE : wdc ρ cA false (fun _ => 0) (zal h) = .inl (cA 20, zcn (zal h), .inl (fun _ => 0)) := by simp [wdc, hc]
  rw [hE, hsz] at k2
  rw [hsz] at h2
  have w1 : (Cond.arrayClass (newarray.typeOf .int)).before args s = true := hS5.word (okw_mem okw_ac.1) rfl args
  have w2 : ∀ cA' : ClassId, vp_cell cA' (zcn (zal h), .inl (fun _ => 0)) = arrV cA' (zcn (zal h)) (fun _ => defaultValue .int) := fun cA' => rfl
  have w3 : (Int32.ofInt n).toNatClampNeg = zcn (zal h) := by rw [i32_cl hn32, hn]; simp
  have w4 : zcn (zal h) * componentBytes .int ≤ 536870912 := by simp [componentBytes]; omega
  refine va_newa (atype := .int) (ty := .int) (a0 := (zcn (zal h), .inl (fun _ => 0))) (N' := zcn (zal h)) (n := Int32.ofInt n) (rest := st.map (vl ρ)) C.1 C.2.1 w1 rfl hS5.2.2.2.2.2.2.2.1 hH.1 hH.2.1 hS hS5.hA w2 (i32_nn hn32 (by omega)) w3 w4 h1 h2 hd (fun q cA' H1 g0 g1 g2 g3 => ?_)
  have e1 : cA' = cA 20 := by
    have q1 : s.vm.findClass "[I" = some cA' := K_last g0
    exact Option.some.inj (q1.symm.trans (tys_fc hS5.2.2.2.2.2.2.2.1).1)
  rw [e1] at g1 g2
  exact k2 q H1 g1 g2 g3
theorem go_newaj {n : Int} (C : Cx p R s m meth c D cA A sp Ls xs adV mi) (hd : decode (zmC mi) pc = .ok (.newarray .long, 2)) (hc : zck (zal h) = 21) (hK : zal h < zK) (hn : n = (zcn (zal h) : Nat))
    (hcap : c0 + (zal h + 1 - a0) ≤ R.cells ∧ s0 + (zsS (zal h + 1) - zsS a0) ≤ R.slots)
    (K : Go p l e R s m args below meth c Qf D cA A sp Ls xs false c0 s0 a0 ρ0 mi (pc + 2) al (vr (zal h) :: st) (hs h 1002 0 ((zal h + 1 : Nat) : Int))) : Go p l e R s m args below meth c Qf D cA A sp Ls xs false c0 s0 a0 ρ0 mi pc al (vi n :: st) h := by
  refine go_cell hK (fun v hv => List.mem_cons_of_mem _ hv) (fun ρ H locs ls cells slots hH hS hL hst h1 h2 k2 => ?_) hcap K
  have hS5 := C.2.2.2.2.1
  have hn32 : in32 n := (okv_c hst).1
  have hK2 := (kinds (zal h) (by rw [zK_eq] at hK; exact hK)).2.2
  have hsz : zsz (zal h) = zcn (zal h) := by unfold zsz; rw [if_neg (by omega)]
  have hE : wdc ρ cA false (fun _ => 0) (zal h) = .inl (cA 21, zcn (zal h), .inr (.inl (fun _ => 0))) := by simp [wdc, hc]
  rw [hE, hsz] at k2
  rw [hsz] at h2
  have w1 : (Cond.arrayClass (newarray.typeOf .long)).before args s = true := hS5.word (okw_mem okw_ac.2.1) rfl args
  have w2 : ∀ cA' : ClassId, vp_cell cA' (zcn (zal h), .inr (.inl (fun _ => 0))) = arrV cA' (zcn (zal h)) (fun _ => defaultValue .long) := fun cA' => rfl
  have w3 : (Int32.ofInt n).toNatClampNeg = zcn (zal h) := by rw [i32_cl hn32, hn]; simp
  have w4 : zcn (zal h) * componentBytes .long ≤ 536870912 := by simp [componentBytes]; omega
  refine va_newa (atype := .long) (ty := .long) (a0 := (zcn (zal h), .inr (.inl (fun _ => 0)))) (N' := zcn (zal h)) (n := Int32.ofInt n) (rest := st.map (vl ρ)) C.1 C.2.1 w1 rfl hS5.2.2.2.2.2.2.2.1 hH.1 hH.2.1 hS hS5.hA w2 (i32_nn hn32 (by omega)) w3 w4 h1 h2 hd (fun q cA' H1 g0 g1 g2 g3 => ?_)
  have e1 : cA' = cA 21 := by
    have q1 : s.vm.findClass "[J" = some cA' := K_last g0
    exact Option.some.inj (q1.symm.trans (tys_fc hS5.2.2.2.2.2.2.2.1).2.1)
  rw [e1] at g1 g2
  exact k2 q H1 g1 g2 g3
theorem go_newab {n : Int} (C : Cx p R s m meth c D cA A sp Ls xs adV mi) (hd : decode (zmC mi) pc = .ok (.newarray .byte, 2)) (hc : zck (zal h) = 22) (hK : zal h < zK) (hn : n = (zcn (zal h) : Nat))
    (hcap : c0 + (zal h + 1 - a0) ≤ R.cells ∧ s0 + (zsS (zal h + 1) - zsS a0) ≤ R.slots)
    (K : Go p l e R s m args below meth c Qf D cA A sp Ls xs false c0 s0 a0 ρ0 mi (pc + 2) al (vr (zal h) :: st) (hs h 1002 0 ((zal h + 1 : Nat) : Int))) : Go p l e R s m args below meth c Qf D cA A sp Ls xs false c0 s0 a0 ρ0 mi pc al (vi n :: st) h := by
  refine go_cell hK (fun v hv => List.mem_cons_of_mem _ hv) (fun ρ H locs ls cells slots hH hS hL hst h1 h2 k2 => ?_) hcap K
  have hS5 := C.2.2.2.2.1
  have hn32 : in32 n := (okv_c hst).1
  have hK2 := (kinds (zal h) (by rw [zK_eq] at hK; exact hK)).2.2
  have hsz : zsz (zal h) = zcn (zal h) := by unfold zsz; rw [if_neg (by omega)]
  have hE : wdc ρ cA false (fun _ => 0) (zal h) = .inl (cA 22, zcn (zal h), .inl (fun _ => 0)) := by simp [wdc, hc]
  rw [hE, hsz] at k2
  rw [hsz] at h2
  have w1 : (Cond.arrayClass (newarray.typeOf .byte)).before args s = true := hS5.word (okw_mem okw_ac.2.2) rfl args
  have w2 : ∀ cA' : ClassId, vp_cell cA' (zcn (zal h), .inl (fun _ => 0)) = arrV cA' (zcn (zal h)) (fun _ => defaultValue .byte) := fun cA' => rfl
  have w3 : (Int32.ofInt n).toNatClampNeg = zcn (zal h) := by rw [i32_cl hn32, hn]; simp
  have w4 : zcn (zal h) * componentBytes .byte ≤ 536870912 := by simp [componentBytes]; omega
  refine va_newa (atype := .byte) (ty := .byte) (a0 := (zcn (zal h), .inl (fun _ => 0))) (N' := zcn (zal h)) (n := Int32.ofInt n) (rest := st.map (vl ρ)) C.1 C.2.1 w1 rfl hS5.2.2.2.2.2.2.2.1 hH.1 hH.2.1 hS hS5.hA w2 (i32_nn hn32 (by omega)) w3 w4 h1 h2 hd (fun q cA' H1 g0 g1 g2 g3 => ?_)
  have e1 : cA' = cA 22 := by
    have q1 : s.vm.findClass "[B" = some cA' := K_last g0
    exact Option.some.inj (q1.symm.trans (tys_fc hS5.2.2.2.2.2.2.2.1).2.2.1)
  rw [e1] at g1 g2
  exact k2 q H1 g1 g2 g3
theorem go_newq {n : Int} {x kd idx z : Nat} (C : Cx p R s m meth c D cA A sp Ls xs adV mi) (hd : decode (zmC mi) pc = .ok (.anewarray idx, 3)) (hx : (x = 3 ∧ kd = 23) ∨ (x = 7 ∧ kd = 24)) (hw : okw z (.classLink (zcN (zmK mi)) idx (zcN x)) = true) (hc : zck (zal h) = kd) (hK : zal h < zK) (hn : n = (zcn (zal h) : Nat))
    (hcap : c0 + (zal h + 1 - a0) ≤ R.cells ∧ s0 + (zsS (zal h + 1) - zsS a0) ≤ R.slots)
    (K : Go p l e R s m args below meth c Qf D cA A sp Ls xs false c0 s0 a0 ρ0 mi (pc + 3) al (vr (zal h) :: st) (hs h 1002 0 ((zal h + 1 : Nat) : Int))) : Go p l e R s m args below meth c Qf D cA A sp Ls xs false c0 s0 a0 ρ0 mi pc al (vi n :: st) h := by
  refine go_cell hK (fun v hv => List.mem_cons_of_mem _ hv) (fun ρ H locs ls cells slots hH hS hL hst h1 h2 k2 => ?_) hcap K
  have hS5 := C.2.2.2.2.1
  have hn32 : in32 n := (okv_c hst).1
  have hK2 := (kinds (zal h) (by rw [zK_eq] at hK; exact hK)).2.2
  have hkd : kd = 23 ∨ kd = 24 := by omega
  have hsz : zsz (zal h) = zcn (zal h) := by unfold zsz; rw [if_neg (by omega)]
  have hE : wdc ρ cA false (fun _ => 0) (zal h) = .inl (cA kd, zcn (zal h), .inr (.inr (.inr (.inr (fun _ => none))))) := by
    have e0 : wra ρ false (fun _ => 0) (zal h) = fun _ => none := by funext j; simp [wra]
    rcases hkd with q | q <;> simp [wdc, hc, q, e0]
  rw [hE, hsz] at k2
  rw [hsz] at h2
  rcases hx with ⟨rfl, rfl⟩ | ⟨rfl, rfl⟩
  · refine va_newq C.1 C.2.1 C.2.2.1 (hS5.word (okw_mem hw) rfl args) hS5.2.2.1.1 hS5.2.2.2.2.2.2.2.1 hH.1 hH.2.1 hS hS5.hA (i32_nn hn32 (by omega)) (by rw [i32_cl hn32, hn]; simp) (by omega) h1 h2 hd (fun q cA' H1 g0 g1 g2 g3 => ?_)
    have e1 : cA' = cA 23 := by
      obtain ⟨-, -, -, -, -, q1⟩ := K_last g0
      exact Option.some.inj (q1.symm.trans (tys_fc hS5.2.2.2.2.2.2.2.1).2.2.2.1)
    subst e1
    exact k2 q H1 g1 g2 g3
  · refine va_newq C.1 C.2.1 C.2.2.1 (hS5.word (okw_mem hw) rfl args) hS5.2.2.1.2 hS5.2.2.2.2.2.2.2.1 hH.1 hH.2.1 hS hS5.hA (i32_nn hn32 (by omega)) (by rw [i32_cl hn32, hn]; simp) (by omega) h1 h2 hd (fun q cA' H1 g0 g1 g2 g3 => ?_)
    have e1 : cA' = cA 24 := by
      obtain ⟨-, -, -, -, -, q1⟩ := K_last g0
      exact Option.some.inj (q1.symm.trans (tys_fc hS5.2.2.2.2.2.2.2.1).2.2.2.2)
    subst e1
    exact k2 q H1 g1 g2 g3
theorem go_aast {k q : Nat} {i : Int} (C : Cx p R s m meth c D cA A sp Ls xs adV mi) (hd : decode (zmC mi) pc = .ok (.aastore, 1)) (hc : (zck k = 23 ∧ zck q = 3) ∨ (zck k = 24 ∧ zck q = 7)) (h0 : 0 ≤ i) (h1 : i < zcn k) (hq : q = zrb k + 14 * i.toNat)
    (K : Go p l e R s m args below meth c Qf D cA A sp Ls xs false c0 s0 a0 ρ0 mi (pc + 1) al st (hs h k i.toNat 1)) : Go p l e R s m args below meth c Qf D cA A sp Ls xs false c0 s0 a0 ρ0 mi pc al (vr q :: vi i :: vr k :: st) h := by
  refine go_wr (fun ρ H locs ls cells slots hH hS hL hst => ?_) K
  have hi : in32 i := (okv_c (okv_c hst).2).1
  have hk : k < zA false h := zck_of (okv_c (okv_c (okv_c hst).2).2).1 (by omega)
  have hqk : q < zA false h := zck_of (okv_c hst).1 (by omega)
  refine ⟨hk, (okv_c (okv_c (okv_c hst).2).2).2, fun k2 => ?_⟩
  have hS5 := C.2.2.2.2.1
  have hw : (wd ρ cA false h)[k]? = some (ρ k, .inl (cA (zck k), zcn k, .inr (.inr (.inr (.inr (wra ρ false (h k) k)))))) := by
    rw [wd_at hk]
    rcases hc with ⟨hc, -⟩ | ⟨hc, -⟩ <;> simp [wdc, hc]
  have hwq : (wd ρ cA false h)[q]? = some (ρ q, .inr (zck q, (List.range (zfN (zck q))).map (wfv ρ false (h q) q))) := by
    rw [wd_at hqk, wdc_obj (by omega)]
  have hu : va_up (wra ρ false (h k) k) i.toNat (some (ρ q)) = wra ρ false ((hs h k i.toNat 1) k) k := by
    funext j
    rw [hs_self]
    unfold va_up wra
    by_cases ej : j = i.toNat
    · subst ej
      simp [hq]
    · simp [ej]
  have hE : (.inl (cA (zck k), zcn k, .inr (.inr (.inr (.inr (va_up (wra ρ false (h k) k) i.toNat (some (ρ q))))))) : va_E) = wdc ρ cA false ((hs h k i.toNat 1) k) k := by
    rw [hu]
    rcases hc with ⟨hc, -⟩ | ⟨hc, -⟩ <;> simp [wdc, hc]
  have hr : rgk (zkd k i.toNat) 1 := by
    have : zkd k i.toNat = 4 := by
      unfold zkd
      rcases hc with ⟨hc, -⟩ | ⟨hc, -⟩ <;> simp [hc]
    rw [this]
    trivial
  have hf : false = false → (1 : Int) = 1 → (zck k < 20 → zfk (64 * zck k + i.toNat) = 4 → k + zfo (64 * zck k + i.toNat) < zA false h) ∧ (zck k = 23 ∨ zck k = 24 → zrb k + 14 * i.toNat < zA false h) := fun _ _ => ⟨fun g => by omega, fun _ => by rw [← hq]; exact hqk⟩
  rcases hc with ⟨hc, hc2⟩ | ⟨hc, hc2⟩
  · refine va_astq C.1 C.2.1 hS5.2.2.2.2.2.2.2.1 hH.1 hH.2.1 hS k 3 q 3 (by rw [hc] at hw; exact hw) (r := (zcN 3, zTX 3, zfN 3)) rfl (by rw [hc2] at hwq; exact hwq) (vwCl_at 3 (by omega)) (i32_vin hi h0 h1) hd (fun H1 locs1 g1 g2 g3 => ?_)
    rw [i32_cl hi] at g1 g2
    rw [hc] at hE
    exact k2 H1 locs1 (HK_hs hH hk hr hf hE g1 g2) g3
  · refine va_astq C.1 C.2.1 hS5.2.2.2.2.2.2.2.1 hH.1 hH.2.1 hS k 4 q 7 (by rw [hc] at hw; exact hw) (r := (zcN 7, zTX 7, zfN 7)) rfl (by rw [hc2] at hwq; exact hwq) (vwCl_at 7 (by omega)) (i32_vin hi h0 h1) hd (fun H1 locs1 g1 g2 g3 => ?_)
    rw [i32_cl hi] at g1 g2
    rw [hc] at hE
    exact k2 H1 locs1 (HK_hs hH hk hr hf hE g1 g2) g3
theorem cpy_ne {h : HP} {a sp b dp n k : Nat} (hk : k ≠ b) : cpy h a sp b dp n k = h k := by funext i; simp [cpy, hk]
theorem HK_cpy {ρ : Nat → Nat} {H H1 : Heap} {ka kb sp' dp n : Nat} {E : va_E} (hH : HK D cA A sp Ls xs b ρ h H) (ha : ka < zA b h) (hb : kb < zA b h) (hc : zck ka = zck kb) (hk : zck ka = 20 ∨ zck ka = 21)
    (hE : E = wdc ρ cA b ((cpy h ka sp' kb dp n) kb) kb) (h1 : va_P D vwCl ((wd ρ cA b h).set kb (ρ kb, E)) H1) (h2 : va_D A ((wd ρ cA b h).set kb (ρ kb, E))) : HK D cA A sp Ls xs b ρ (cpy h ka sp' kb dp n) H1 := by
  obtain ⟨-, -, g3, g4, g5, g6, g7, g8, g9⟩ := hH
  have hK := g3.1
  rw [zK_eq] at hK
  have hz : zA b (cpy h ka sp' kb dp n) = zA b h := by
    unfold zA zal
    rw [cpy_ne (by omega)]
  subst hE
  rw [wd_upd hz (fun k' hk' => cpy_ne hk')] at h1 h2
  have hkd : ∀ j j', zkd ka j = zkd kb j' := by
    intro j j'
    unfold zkd
    rw [← hc]
    rcases hk with q | q <;> simp [q]
  refine ⟨h1, h2, ⟨by rw [hz]; exact g3.1, fun k hk' j => ?_, fun hbf => ⟨fun k k1 k2 j => ?_, fun k hk' j hj => ?_⟩⟩, g4, g5, g6, ?_, ?_, g9⟩
  · rw [hz] at hk'
    unfold cpy
    split
    · rename_i q
      obtain ⟨rfl, -⟩ := q
      rw [← hkd (sp' + (j - dp)) j]
      exact g3.2.1 ka ha _
    · exact g3.2.1 k hk' j
  · rw [hz] at k1
    rw [cpy_ne (by omega)]
    exact (g3.2.2 hbf).1 k k1 k2 j
  · rw [hz] at hk' ⊢
    by_cases e : k = kb
    · subst e
      exact ⟨fun q => by omega, fun q => by omega⟩
    · rw [cpy_ne e] at hj
      exact (g3.2.2 hbf).2 k hk' j hj
  · rw [cpy_ne (by omega)]; exact g7
  · rw [cpy_ne (by omega)]; exact g8
theorem okw_sys : okw (lw_tbl.findIdx (fun w => decide (w = .native zNm_copy))) (.native zNm_copy) = true ∧ okw (lw_tbl.findIdx (fun w => decide (w = .static zNm_copy))) (.static zNm_copy) = true ∧ okw (lw_tbl.findIdx (fun w => decide (w = .initialized "java/lang/System"))) (.initialized "java/lang/System") = true := by decide +kernel
theorem go_copy {ka kb idx z : Nat} {n dp sp' : Int} (C : Cx p R s m meth c D cA A sp Ls xs adV mi) (hd : decode (zmC mi) pc = .ok (.invokestatic idx, 3)) (hw : okw z (.methodLink (zcN (zmK mi)) idx zNm_copy) = true) (hR : 1 ≤ zmH mi ∧ 26 ≤ zmW mi)
    (hc : zck ka = zck kb) (hk : zck ka = 20 ∨ zck ka = 21) (h0 : 0 ≤ n) (h1 : 0 ≤ sp') (h2 : 0 ≤ dp) (h3 : sp' + n ≤ zcn ka) (h4 : dp + n ≤ zcn kb) (h5 : (st.map acat).sum ≤ 8)
    (K : Go p l e R s m args below meth c Qf D cA A sp Ls xs b c0 s0 a0 ρ0 mi (pc + 3) al st (cpy h ka sp'.toNat kb dp.toNat n.toNat)) : Go p l e R s m args below meth c Qf D cA A sp Ls xs b c0 s0 a0 ρ0 mi pc al (vi n :: vi dp :: vr kb :: vi sp' :: vr ka :: st) h := by
  intro ρ H locs ls hH hS hL hv ha hρ hn
  have hn32 : in32 n := (okv_c hv).1
  have hdp : in32 dp := (okv_c (okv_c hv).2).1
  have hkb : kb < zA b h := zck_of (okv_c (okv_c (okv_c hv).2).2).1 (by omega)
  have hsp : in32 sp' := (okv_c (okv_c (okv_c (okv_c hv).2).2).2).1
  have hka : ka < zA b h := zck_of (okv_c (okv_c (okv_c (okv_c (okv_c hv).2).2).2).2).1 (by omega)
  have hst := (okv_c (okv_c (okv_c (okv_c (okv_c hv).2).2).2).2).2
  have hS5 := C.2.2.2.2.1
  have hz : zA b (cpy h ka sp'.toNat kb dp.toNat n.toNat) = zA b h := by
    have hK := hH.2.2.1.1
    rw [zK_eq] at hK
    unfold zA zal
    rw [cpy_ne (by omega)]
  have fin : ∀ (H1 : Heap) (locs1 : List Loc), HK D cA A sp Ls xs b ρ (cpy h ka sp'.toNat kb dp.toNat n.toNat) H1 → va_S A s.heap H1 locs1 → W p l e R s m args below meth c H1 locs1 (c0 + (zA b h - a0)) (s0 + (zsS (zA b h) - zsS a0)) Qf (F0 m (pc + 3) ls (st.map (vl ρ))) := by
    intro H1 locs1 g1 g2
    have := K ρ H1 locs1 ls g1 g2 (by rw [hz]; exact hL) (by rw [hz]; exact hst) (by rw [hz]; exact ha) hρ hn
    rw [hz] at this
    exact this
  have hloc : ((st.map (vl ρ)).map fun v => v.category).sum + (nativeFrameWords "java/lang/System" "arraycopy" 5 + 11) ≤ R.locals := by
    rw [sum_cat]
    have e1 : nativeFrameWords "java/lang/System" "arraycopy" 5 = 7 := by decide
    rw [e1]
    have := C.2.2.2.2.2.2.2.2
    omega
  have hml : c.maxLocals = ls.size := by rw [C.2.2.2.1, hL.1, hn]
  have hfr : 1 ≤ R.frames := Nat.le_trans hR.1 C.2.2.2.2.2.2.2.1
  rcases hk with hk | hk
  · have hk' : zck kb = 20 := by omega
    have w1 : (wd ρ cA b h)[ka]? = some (ρ ka, .inl (cA 20, zcn ka, .inl (fun j => Int32.ofInt (h ka j)))) := by rw [wd_at hka]; simp [wdc, hk]
    have w2 : (wd ρ cA b h)[kb]? = some (ρ kb, .inl (cA 20, zcn kb, .inl (fun j => Int32.ofInt (h kb j)))) := by rw [wd_at hkb]; simp [wdc, hk']
    refine va_copyi C.1 C.2.1 hml C.2.2.1 (hS5.word (okw_mem hw) rfl args) (hS5.word (okw_mem okw_sys.1) rfl args) (hS5.word (okw_mem okw_sys.2.1) rfl args) (hS5.word (okw_mem okw_sys.2.2) rfl args) hS5.2.2.2.2.2.2.2.1 hH.1 hH.2.1 hS ka kb 0 0 w1 w2 rfl rfl rfl (i32_nn hsp h1) (i32_nn hdp h2) (i32_nn hn32 h0) (by rw [i32_cl hsp, i32_cl hn32]; omega) (by rw [i32_cl hdp, i32_cl hn32]; omega) (fun _ _ => rfl) hfr hloc hd (fun H1 locs1 g1 g2 g3 => fin H1 locs1 (HK_cpy hH hka hkb hc (Or.inl hk) ?_ g1 g2) g3)
    rw [i32_cl hsp, i32_cl hdp, i32_cl hn32]
    simp [wdc, hk']
    funext j
    unfold va_cpy cpy
    by_cases q : dp.toNat ≤ j ∧ j < dp.toNat + n.toNat
    · rw [if_pos q, if_pos ⟨rfl, q⟩]
    · rw [if_neg q, if_neg (fun w => q w.2)]
  · have hk' : zck kb = 21 := by omega
    have w1 : (wd ρ cA b h)[ka]? = some (ρ ka, .inl (cA 21, zcn ka, .inr (.inl (fun j => Int64.ofInt (h ka j))))) := by rw [wd_at hka]; simp [wdc, hk]
    have w2 : (wd ρ cA b h)[kb]? = some (ρ kb, .inl (cA 21, zcn kb, .inr (.inl (fun j => Int64.ofInt (h kb j))))) := by rw [wd_at hkb]; simp [wdc, hk']
    refine va_copyl C.1 C.2.1 hml C.2.2.1 (hS5.word (okw_mem hw) rfl args) (hS5.word (okw_mem okw_sys.1) rfl args) (hS5.word (okw_mem okw_sys.2.1) rfl args) (hS5.word (okw_mem okw_sys.2.2) rfl args) hS5.2.2.2.2.2.2.2.1 hH.1 hH.2.1 hS ka kb 1 1 w1 w2 rfl rfl rfl (i32_nn hsp h1) (i32_nn hdp h2) (i32_nn hn32 h0) (by rw [i32_cl hsp, i32_cl hn32]; omega) (by rw [i32_cl hdp, i32_cl hn32]; omega) (fun _ _ => rfl) hfr hloc hd (fun H1 locs1 g1 g2 g3 => fin H1 locs1 (HK_cpy hH hka hkb hc (Or.inr hk) ?_ g1 g2) g3)
    rw [i32_cl hsp, i32_cl hdp, i32_cl hn32]
    simp [wdc, hk']
    funext j
    unfold va_cpy cpy
    by_cases q : dp.toNat ≤ j ∧ j < dp.toNat + n.toNat
    · rw [if_pos q, if_pos ⟨rfl, q⟩]
    · rw [if_neg q, if_neg (fun w => q w.2)]
theorem okw_obj : okw (lw_tbl.findIdx (fun w => decide (w = .instanceMethod objectInit))) (.instanceMethod objectInit) = true ∧ okw (lw_tbl.findIdx (fun w => decide (w = .code objectInit ⟨#[0xb1]⟩ 1 none))) (.code objectInit ⟨#[0xb1]⟩ 1 none) = true := by decide +kernel
theorem go_objInit {k idx z : Nat} (C : Cx p R s m meth c D cA A sp Ls xs adV mi) (hd : decode (zmC mi) pc = .ok (.invokespecial idx, 3)) (hw : okw z (.methodLink (zcN (zmK mi)) idx objectInit) = true) (hR : 1 ≤ zmH mi ∧ 20 ≤ zmW mi) (h5 : (st.map acat).sum ≤ 8)
    (K : Go p l e R s m args below meth c Qf D cA A sp Ls xs b c0 s0 a0 ρ0 mi (pc + 3) al st h) : Go p l e R s m args below meth c Qf D cA A sp Ls xs b c0 s0 a0 ρ0 mi pc al (vr k :: st) h := by
  intro ρ H locs ls hH hS hL hv ha hρ hn
  have hS5 := C.2.2.2.2.1
  refine W.objInit C.1 C.2.1 C.2.2.1 (hS5.word (okw_mem hw) rfl args) (hS5.word (okw_mem okw_obj.1) rfl args) (hS5.word (okw_mem okw_obj.2) rfl args) rfl (by rw [C.2.2.2.1]; exact hL.1.trans hn) rfl hd (Nat.le_trans hR.1 C.2.2.2.2.2.2.2.1) ?_ (K ρ H locs ls hH hS hL (okv_c hv).2 ha hρ hn)
  have := C.2.2.2.2.2.2.2.2
  have e1 := sum_cat ρ st
  have e2 : (F0 m pc ls ((vr k :: st).map (vl ρ))).monitorRoom = 0 := rfl
  rw [e2]
  show 2 * 0 + ((st.map (vl ρ)).map fun v => v.category).sum + 12 ≤ R.locals
  omega
theorem okw_st : (okw (lw_tbl.findIdx (fun w => decide (w = .code zNm_charAt prog_16_method_56_code 2 (some .char)))) (.code zNm_charAt prog_16_method_56_code 2 (some .char)) = true ∧ okw (lw_tbl.findIdx (fun w => decide (w = .code zNm_length prog_16_method_54_code 1 (some .int)))) (.code zNm_length prog_16_method_54_code 1 (some .int)) = true) ∧ okw (lw_tbl.findIdx (fun w => decide (w = .initialized "java/lang/String"))) (.initialized "java/lang/String") = true ∧ (okw (lw_tbl.findIdx (fun w => decide (w = .instanceMethod zNm_charAt))) (.instanceMethod zNm_charAt) = true ∧ okw (lw_tbl.findIdx (fun w => decide (w = .instanceMethod zNm_length))) (.instanceMethod zNm_length) = true) ∧ okw (lw_tbl.findIdx (fun w => decide (w = .selects "java/lang/String" zNm_charAt zNm_charAt))) (.selects "java/lang/String" zNm_charAt zNm_charAt) = true ∧ okw (lw_tbl.findIdx (fun w => decide (w = .selects "java/lang/String" zNm_length zNm_length))) (.selects "java/lang/String" zNm_length zNm_length) = true := by decide +kernel
theorem HK_same {ρ : Nat → Nat} {H H1 : Heap} (hH : HK D cA A sp Ls xs b ρ h H) (e : H1 = H) : HK D cA A sp Ls xs b ρ h H1 := e ▸ hH
theorem str_ad {ρ : Nat → Nat} {H : Heap} {i : Nat} (hH : HK D cA A sp Ls xs b ρ h H) (hi : i < 2) : ρ (2000 + i) = adK sp i := by
  rcases (show i = 0 ∨ i = 1 by omega) with rfl | rfl
  · exact hH.2.2.2.2.1
  · exact hH.2.2.2.2.2.1
theorem go_charAt {i j idx z : Nat} (C : Cx p R s m meth c D cA A sp Ls xs adV mi) (hd : decode (zmC mi) pc = .ok (.invokevirtual idx, 3)) (hw : okw z (.methodLink (zcN (zmK mi)) idx zNm_charAt) = true) (hR : 4 ≤ zmH mi ∧ 85 ≤ zmW mi) (hi : i < 2) (hj : j < (zstr (2000 + i)).length) (h5 : (st.map acat).sum ≤ 8) (hcap : c0 + (zA b h - a0) ≤ R.cells ∧ s0 + (zsS (zA b h) - zsS a0) ≤ R.slots)
    (K : Go p l e R s m args below meth c Qf D cA A sp Ls xs b c0 s0 a0 ρ0 mi (pc + 3) al (vi ((zstr (2000 + i)).getD j 0) :: st) h) : Go p l e R s m args below meth c Qf D cA A sp Ls xs b c0 s0 a0 ρ0 mi pc al (vi (j : Int) :: vr (2000 + i) :: st) h := by
  intro ρ H locs ls hH hS hL hv ha hρ hn
  have hS5 := C.2.2.2.2.1
  obtain ⟨z1, z2⟩ := ZLen_lt i hi
  obtain ⟨y1, y2, y3, y4⟩ := ZByt_at i hi j (by
    have : ∀ i, i < 2 → ZLen.getD i 0 ≤ 132 := by decide
    have := this i hi
    omega) (by omega)
  have e1 : (vi (j : Int) :: vr (2000 + i) :: st).map (vl ρ) = ([.int (Int32.ofInt (j : Int))] : List Value).reverse ++ .ref (adK sp i) :: st.map (vl ρ) := by
    simp [vl, str_ad hH hi]
  have hf1 := C.2.2.2.2.2.2.2.1
  have hf2 := C.2.2.2.2.2.2.2.2
  rw [e1]
  refine xcall (va_runV (As := [.int (Int32.ofInt (j : Int))]) (rest := st.map (vl ρ)) (Ts := zTs) ⟨C.1, C.2.1, C.2.2.2.1, C.2.2.1, hS5.ts _⟩ (c_charAt l i j hi (by omega)) ⟨callB_of 1 (hS5.ts _) (zcode_good (okw_mem okw_st.1.1)) rfl rfl rfl (hS5.word (okw_mem okw_st.2.1) rfl _) (hS5.word (okw_mem hw) rfl _) (by decide +kernel) ⟨by show 3 + 1 ≤ R.frames; omega, by show 8 + (2 + 11) + 64 ≤ R.locals; omega⟩, hS5.word (okw_mem okw_st.2.2.1.1) rfl _, hS5.word (okw_mem okw_st.2.2.2.1) rfl _⟩ (SP_v hi hS5 hS) rfl rfl (hL.1.trans hn) rfl (lv_room (by rw [sum_cat]; exact h5)) hd hcap) hS (fun _ _ _ q => q.2.2) (fun v st' t H1 locs1 h2 h3 h4 h5' h6 => ?_)
  obtain ⟨h7, h8, -⟩ := h5'
  cases h7
  exact K ρ H1 locs1 ls (HK_same hH (by rw [← h2, h8, h3])) h6 hL (okv_p (show okv _ (vi ((zstr (2000 + i)).getD j 0)) from by show in32 _; unfold in32; omega) (okv_c (okv_c hv).2).2) ha hρ hn
theorem go_length {i idx z : Nat} (C : Cx p R s m meth c D cA A sp Ls xs adV mi) (hd : decode (zmC mi) pc = .ok (.invokevirtual idx, 3)) (hw : okw z (.methodLink (zcN (zmK mi)) idx zNm_length) = true) (hR : 2 ≤ zmH mi ∧ 40 ≤ zmW mi) (hi : i < 2) (h5 : (st.map acat).sum ≤ 8) (hcap : c0 + (zA b h - a0) ≤ R.cells ∧ s0 + (zsS (zA b h) - zsS a0) ≤ R.slots)
    (K : Go p l e R s m args below meth c Qf D cA A sp Ls xs b c0 s0 a0 ρ0 mi (pc + 3) al (vi ((zstr (2000 + i)).length : Nat) :: st) h) : Go p l e R s m args below meth c Qf D cA A sp Ls xs b c0 s0 a0 ρ0 mi pc al (vr (2000 + i) :: st) h := by
  intro ρ H locs ls hH hS hL hv ha hρ hn
  have hS5 := C.2.2.2.2.1
  obtain ⟨z1, z2⟩ := ZLen_lt i hi
  have e1 : (vr (2000 + i) :: st).map (vl ρ) = ([] : List Value).reverse ++ .ref (adK sp i) :: st.map (vl ρ) := by
    simp [vl, str_ad hH hi]
  have hf1 := C.2.2.2.2.2.2.2.1
  have hf2 := C.2.2.2.2.2.2.2.2
  rw [e1]
  refine xcall (va_runV (As := []) (rest := st.map (vl ρ)) (Ts := zTs) ⟨C.1, C.2.1, C.2.2.2.1, C.2.2.1, hS5.ts _⟩ (c_length l i hi) ⟨callB_of 0 (hS5.ts _) (zcode_good (okw_mem okw_st.1.2)) rfl rfl rfl (hS5.word (okw_mem okw_st.2.1) rfl _) (hS5.word (okw_mem hw) rfl _) (by decide +kernel) ⟨by show 1 + 1 ≤ R.frames; omega, by show 8 + (1 + 11) + 20 ≤ R.locals; omega⟩, hS5.word (okw_mem okw_st.2.2.1.2) rfl _, hS5.word (okw_mem okw_st.2.2.2.2) rfl _⟩ (SP_v hi hS5 hS) rfl rfl (hL.1.trans hn) rfl (lv_room (by rw [sum_cat]; exact h5)) hd hcap) hS (fun _ _ _ q => q.2.2) (fun v st' t H1 locs1 h2 h3 h4 h5' h6 => ?_)
  obtain ⟨h7, h8, -⟩ := h5'
  cases h7
  exact K ρ H1 locs1 ls (HK_same hH (by rw [← h2, h8, h3])) h6 hL (okv_p (show okv _ (vi ((zstr (2000 + i)).length : Nat)) from by show in32 _; unfold in32; omega) (okv_c hv).2) ha hρ hn
theorem go_ldcS {x idx : Nat} (C : Cx p R s m meth c D cA A sp Ls xs adV mi) (hd : decode (zmC mi) pc = .ok (.ldc idx, 2)) (hx : (x = 2000 ∧ zcN (zmK mi) = "ChalkRoom$Tokens" ∧ idx = 54) ∨ (x = 2001 ∧ zcN (zmK mi) = "ChalkRoomModel" ∧ idx = 183))
    (K : Go p l e R s m args below meth c Qf D cA A sp Ls xs b c0 s0 a0 ρ0 mi (pc + 2) al (vr x :: st) h) : Go p l e R s m args below meth c Qf D cA A sp Ls xs b c0 s0 a0 ρ0 mi pc al st h := by
  refine go_nh rfl (fun ρ H locs ls cells slots hH hS hL hst k2 => ?_) K
  have hS5 := C.2.2.2.2.1
  have hown := C.2.2.1
  have hkk := k2 ls hL (okv_p (show okv _ (vr x) from by show x < _ ∨ x = 1000 ∨ x = 2000 ∨ x = 2001; omega) hst)
  rcases hx with ⟨rfl, e1, rfl⟩ | ⟨rfl, e1, rfl⟩
  · rw [e1] at hown
    refine va_ldcS C.1 C.2.1 hown hS5.2.2.2.1.1 hd ?_
    have : (vr 2000 :: st).map (vl ρ) = .ref sp.2.1 :: st.map (vl ρ) := by simp [vl, hH.2.2.2.2.1]
    rw [this] at hkk
    exact hkk
  · rw [e1] at hown
    refine va_ldcS C.1 C.2.1 hown hS5.2.2.2.1.2 hd ?_
    have : (vr 2001 :: st).map (vl ρ) = .ref sp.2.2 :: st.map (vl ρ) := by simp [vl, hH.2.2.2.2.2.1]
    rw [this] at hkk
    exact hkk
end GOM
