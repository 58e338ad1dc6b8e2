section GOS
variable {p : Program} {l : Launch} {e : Env} {R : Room} {s : State} {m : MethodId} {args : Array Value} {below : List Frame} {meth : Method} {c : Code} {Qf : State → Prop} {D : va_G} {cA : Nat → ClassId} {A : Nat → Prop} {sp : Nat × Nat × Nat} {Ls : Nat} {xs : Nat → Int32} {adV : Nat → Nat} {b : Bool} {c0 s0 a0 : Nat} {ρ0 : Nat → Nat} {mi pc : Nat} {al st : List AV} {h : HP}
theorem upd_of {f : Nat → Int} {i : Nat} {v : Int} : upd (fun j => Int32.ofInt (f j)) i (Int32.ofInt v) = fun j => Int32.ofInt (if j = i then v else f j) := by
  funext j
  by_cases e : j = i <;> simp [upd, e]
theorem updL_of {f : Nat → Int} {i : Nat} {v : Int} : vp_updL (fun j => Int64.ofInt (f j)) i (Int64.ofInt v) = fun j => Int64.ofInt (if j = i then v else f j) := by
  funext j
  by_cases e : j = i <;> simp [vp_updL, e]
theorem go_iast {k : Nat} {i v : Int} (C : Cx p R s m meth c D cA A sp Ls xs adV mi) (hd : decode (zmC mi) pc = .ok (.iastore, 1)) (hc : zck k = 20) (h0 : 0 ≤ i) (h1 : i < zcn k)
    (K : Go p l e R s m args below meth c Qf D cA A sp Ls xs b c0 s0 a0 ρ0 mi (pc + 1) al st (hs h k i.toNat v)) : Go p l e R s m args below meth c Qf D cA A sp Ls xs b c0 s0 a0 ρ0 mi pc al (vi v :: vi i :: vr k :: st) h := by
  refine go_wr (fun ρ H locs ls cells slots hH hS hL hst => ?_) K
  have hv : in32 v := (okv_c hst).1
  have hi : in32 i := (okv_c (okv_c hst).2).1
  have hk : k < zA b h := zck_of (okv_c (okv_c (okv_c hst).2).2).1 (by omega)
  refine ⟨hk, (okv_c (okv_c (okv_c hst).2).2).2, fun k2 => ?_⟩
  have hw : (wd ρ cA b h)[k]? = some (ρ k, .inl (cA 20, zcn k, .inl (fun j => Int32.ofInt (h k j)))) := by rw [wd_at hk]; simp [wdc, hc]
  refine va_iast C.1 C.2.1 C.2.2.2.2.1.2.2.2.2.2.2.2.1 hH.1 hH.2.1 hS k 0 hw rfl (i32_vin hi h0 h1) hd (fun H1 locs1 g1 g2 g3 => k2 H1 locs1 (HK_hs hH hk (by simp [zkd, hc, rgk]; exact hv) (fun _ _ => ⟨fun q => by omega, fun q => by omega⟩) ?_ g1 g2) g3)
  rw [i32_cl hi, hs_self]
  simp [wdc, hc]
  exact upd_of
theorem go_bast {k : Nat} {i v : Int} (C : Cx p R s m meth c D cA A sp Ls xs adV mi) (hd : decode (zmC mi) pc = .ok (.bastore, 1)) (hc : zck k = 22) (h0 : 0 ≤ i) (h1 : i < zcn k) (h2 : -128 ≤ v) (h3 : v ≤ 127)
    (K : Go p l e R s m args below meth c Qf D cA A sp Ls xs b c0 s0 a0 ρ0 mi (pc + 1) al st (hs h k i.toNat v)) : Go p l e R s m args below meth c Qf D cA A sp Ls xs b c0 s0 a0 ρ0 mi pc al (vi v :: vi i :: vr k :: st) h := by
  refine go_wr (fun ρ H locs ls cells slots hH hS hL hst => ?_) K
  have hv : in32 v := (okv_c hst).1
  have hi : in32 i := (okv_c (okv_c hst).2).1
  have hk : k < zA b h := zck_of (okv_c (okv_c (okv_c hst).2).2).1 (by omega)
  refine ⟨hk, (okv_c (okv_c (okv_c hst).2).2).2, fun k2 => ?_⟩
  have hw : (wd ρ cA b h)[k]? = some (ρ k, .inl (cA 22, zcn k, .inl (fun j => Int32.ofInt (h k j)))) := by rw [wd_at hk]; simp [wdc, hc]
  refine va_bast C.1 C.2.1 C.2.2.2.2.1.2.2.2.2.2.2.2.1 hH.1 hH.2.1 hS k 2 hw rfl (i32_vin hi h0 h1) hd (fun H1 locs1 g1 g2 g3 => k2 H1 locs1 (HK_hs hH hk (by simp [zkd, hc, rgk]; exact ⟨h2, h3⟩) (fun _ _ => ⟨fun q => by omega, fun q => by omega⟩) ?_ g1 g2) g3)
  have e8 : w8 v = v := by unfold w8; omega
  rw [i32_cl hi, hs_self, vp_nar_byte, i32_b hv, e8]
  simp [wdc, hc]
  exact upd_of
theorem go_jast {k : Nat} {i v : Int} (C : Cx p R s m meth c D cA A sp Ls xs adV mi) (hd : decode (zmC mi) pc = .ok (.lastore, 1)) (hc : zck k = 21) (h0 : 0 ≤ i) (h1 : i < zcn k)
    (K : Go p l e R s m args below meth c Qf D cA A sp Ls xs b c0 s0 a0 ρ0 mi (pc + 1) al st (hs h k i.toNat v)) : Go p l e R s m args below meth c Qf D cA A sp Ls xs b c0 s0 a0 ρ0 mi pc al (vj v :: vi i :: vr k :: st) h := by
  refine go_wr (fun ρ H locs ls cells slots hH hS hL hst => ?_) K
  have hv : in64 v := (okv_c hst).1
  have hi : in32 i := (okv_c (okv_c hst).2).1
  have hk : k < zA b h := zck_of (okv_c (okv_c (okv_c hst).2).2).1 (by omega)
  refine ⟨hk, (okv_c (okv_c (okv_c hst).2).2).2, fun k2 => ?_⟩
  have hw : (wd ρ cA b h)[k]? = some (ρ k, .inl (cA 21, zcn k, .inr (.inl (fun j => Int64.ofInt (h k j))))) := by rw [wd_at hk]; simp [wdc, hc]
  refine va_last C.1 C.2.1 C.2.2.2.2.1.2.2.2.2.2.2.2.1 hH.1 hH.2.1 hS k 1 hw rfl (i32_vin hi h0 h1) hd (fun H1 locs1 g1 g2 g3 => k2 H1 locs1 (HK_hs hH hk (by simp [zkd, hc, rgk]; exact hv) (fun _ _ => ⟨fun q => by omega, fun q => by omega⟩) ?_ g1 g2) g3)
  rw [i32_cl hi, hs_self]
  simp [wdc, hc]
  exact updL_of
theorem wdc_obj {ρ : Nat → Nat} {hk : Nat → Int} {k : Nat} (hc : zck k < 20) : wdc ρ cA b hk k = .inr (zck k, (List.range (zfN (zck k))).map (wfv ρ b hk k)) := by simp [wdc, hc]
theorem go_get {k x y idx : Nat} {v : AV} (C : Cx p R s m meth c D cA A sp Ls xs adV mi) (hd : decode (zmC mi) pc = .ok (.getfield idx, 3)) {z : Nat} (hx : x < 13) (hy : y < zfN x) (hw : okw z (.fieldLink (zcN (zmK mi)) idx (zTX x y).1 (zTX x y).2.1 (zTX x y).2.2.1) = true)
    (hc : zck k = x) (hv : ((zfk (64 * x + y) = 0 ∨ zfk (64 * x + y) = 3) ∧ v = vi (h k y)) ∨ (zfk (64 * x + y) = 1 ∧ v = vj (h k y)) ∨ (zfk (64 * x + y) = 4 ∧ (b = true ∨ h k y = 1) ∧ v = vr (k + zfo (64 * x + y))))
    (K : Go p l e R s m args below meth c Qf D cA A sp Ls xs b c0 s0 a0 ρ0 mi (pc + 3) al (v :: st) h) : Go p l e R s m args below meth c Qf D cA A sp Ls xs b c0 s0 a0 ρ0 mi pc al (vr k :: st) h := by
  refine go_nh rfl (fun ρ H locs ls cells slots hH hS hL hst k2 => ?_) K
  have hk : k < zA b h := zck_of (okv_c hst).1 (by omega)
  have hk2 : k < 123 := zck_lt k (by omega)
  have hS5 := C.2.2.2.2.1
  have hN : zfN x ≤ 40 := by
    have : ∀ x, x < 13 → zfN x ≤ 40 := by decide
    exact this x hx
  have hwd : (wd ρ cA b h)[k]? = some (ρ k, .inr (x, (List.range (zfN x)).map (wfv ρ b (h k) k))) := by rw [wd_at hk, wdc_obj (by omega), hc]
  have hfv : ((List.range (zfN x)).map (wfv ρ b (h k) k))[y]? = some (vl ρ v) := by
    rw [List.getElem?_map, List.getElem?_range hy]
    show some (wfv ρ b (h k) k y) = _
    unfold wfv
    rw [hc]
    rcases hv with ⟨q, rfl⟩ | ⟨q, rfl⟩ | ⟨q, q2, rfl⟩
    · rw [if_pos q]; rfl
    · rw [if_neg (by omega), if_pos q]; rfl
    · rw [if_neg (by omega), if_neg (by omega), if_pos q2]; rfl
  have hok : okv (zA b h) v := by
    rcases hv with ⟨q, rfl⟩ | ⟨q, rfl⟩ | ⟨q, q2, rfl⟩
    · refine okh_32 hH.2.2.1 hk ?_
      unfold zkd
      rw [if_pos (by omega), hc]
      rcases q with q | q
      · exact Or.inl q
      · exact Or.inr (Or.inr q)
    · refine okh_64 hH.2.2.1 hk ?_
      unfold zkd
      rw [if_pos (by omega), hc]
      exact q
    · left
      by_cases hb : b = true
      · have := ref_in k hk2 y (by omega) (by omega) (by rw [hc]; exact q)
        rw [hc] at this
        unfold zA
        rw [if_pos hb, zK_eq]
        exact this
      · have h1 : h k y = 1 := q2.resolve_left hb
        have h2 := ((hH.2.2.1.2.2 (by simpa using hb)).2 k hk y h1).1 (by omega) (by rw [hc]; exact q)
        rw [hc] at h2
        exact h2
  refine va_get C.1 C.2.1 (hS5.ts args) (okX_ws hx) C.2.2.1 hS5.2.2.2.2.2.2.2.1 hH.1 k hwd (vwCl_at x hx) y hy (hS5.word (okw_mem hw) rfl args) (fun _ q => q) hfv hd ?_
  exact k2 ls hL (okv_p hok (okv_c hst).2)
theorem map_set {ρ : Nat → Nat} {hk : Nat → Int} {k y N : Nat} {v : Int} {w : Value} (hw : wfv ρ b (fun j => if j = y then v else hk j) k y = w) : ((List.range N).map (wfv ρ b hk k)).set y w = (List.range N).map (wfv ρ b (fun j => if j = y then v else hk j) k) := by
  apply List.ext_getElem?
  intro j
  rw [List.getElem?_set]
  by_cases e : y = j
  · subst e
    by_cases hl : y < N
    · simp [hl, hw]
    · simp [hl]
  · rw [if_neg e, List.getElem?_map, List.getElem?_map]
    by_cases hl : j < N
    · rw [List.getElem?_range hl]
      have : wfv ρ b (fun j => if j = y then v else hk j) k j = wfv ρ b hk k j := by
        unfold wfv
        simp only [if_neg (fun q : j = y => e q.symm)]
      simp [this]
    · simp [hl]
theorem narrow_ref {ty : FieldType} (h : refKind ty = true) (a : Nat) : narrow ty (.ref a) = .ref a ∧ fits ty (.ref a) = true := by
  cases ty <;> simp [refKind] at h <;> exact ⟨rfl, rfl⟩
theorem go_put {k x y idx : Nat} {v : AV} {n : Int} (C : Cx p R s m meth c D cA A sp Ls xs adV mi) (hd : decode (zmC mi) pc = .ok (.putfield idx, 3)) {z : Nat} (hx : x < 13) (hy : y < zfN x) (hw : okw z (.fieldLink (zcN (zmK mi)) idx (zTX x y).1 (zTX x y).2.1 (zTX x y).2.2.1) = true)
    (hc : zck k = x) (hv : (zfk (64 * x + y) = 0 ∧ v = vi n) ∨ (zfk (64 * x + y) = 3 ∧ v = vi n ∧ (n = 0 ∨ n = 1)) ∨ (zfk (64 * x + y) = 1 ∧ v = vj n) ∨ (zfk (64 * x + y) = 4 ∧ b = false ∧ zmI mi = true ∧ zmK mi = x ∧ v = vr (k + zfo (64 * x + y)) ∧ n = 1)) (hname : zmI mi = true → (zmY mi).name = "<init>")
    (K : Go p l e R s m args below meth c Qf D cA A sp Ls xs b c0 s0 a0 ρ0 mi (pc + 3) al st (hs h k y n)) : Go p l e R s m args below meth c Qf D cA A sp Ls xs b c0 s0 a0 ρ0 mi pc al (v :: vr k :: st) h := by
  refine go_wr (fun ρ H locs ls cells slots hH hS hL hst => ?_) K
  have hk : k < zA b h := zck_of (okv_c (okv_c hst).2).1 (by omega)
  refine ⟨hk, (okv_c (okv_c hst).2).2, fun k2 => ?_⟩
  have hS5 := C.2.2.2.2.1
  obtain ⟨t1, t2, t3, t4, t5, t6, t7, t8⟩ := okX_f hx hy
  have hwd : (wd ρ cA b h)[k]? = some (ρ k, .inr (x, (List.range (zfN x)).map (wfv ρ b (h k) k))) := by rw [wd_at hk, wdc_obj (by omega), hc]
  have hkd : zkd k y = zfk (64 * x + y) := by unfold zkd; rw [if_pos (by omega), hc]
  have hE : ∀ w : Value, wfv ρ b (fun j => if j = y then n else h k j) k y = w → (.inr (x, ((List.range (zfN x)).map (wfv ρ b (h k) k)).set y w) : va_E) = wdc ρ cA b ((hs h k y n) k) k := by
    intro w hw'
    rw [hs_self, wdc_obj (by omega), hc, map_set hw']
  have hlen : y < ((List.range (zfN x)).map (wfv ρ b (h k) k)).length := by simpa using hy
  rcases hv with ⟨q, rfl⟩ | ⟨q, rfl, q2⟩ | ⟨q, rfl⟩ | ⟨q, q2, q3, q4, rfl, rfl⟩
  · have hn : in32 n := (okv_c hst).1
    refine va_put C.1 C.2.1 (hS5.ts args) (okX_ws hx) (zTY x) (okX_ty hx) (okX_nm hx) C.2.2.1 hS5.2.2.2.2.2.2.2.1 hH.1 hH.2.1 hS k hwd (vwCl_at x hx) y hy (hS5.word (okw_mem hw) rfl args) (fun _ q => q) (t4 q).2 t1 (by rw [(t4 q).1]; rfl) (by rw [(t4 q).1]; rfl) hlen hd (fun H1 locs1 g1 g2 g3 => k2 H1 locs1 (HK_hs hH hk (by rw [hkd, q]; exact hn) (fun _ _ => ⟨fun _ q' => by rw [hc] at q'; omega, fun q' => by omega⟩) (hE _ ?_) g1 g2) g3)
    unfold wfv; rw [hc, if_pos (Or.inl q)]; simp [vl]
  · have hn : in32 n := (okv_c hst).1
    have hb1 : narrow .boolean (.int (Int32.ofInt n)) = .int (Int32.ofInt n) ∧ fits .boolean (.int (Int32.ofInt n)) = true := by
      rcases q2 with rfl | rfl <;> exact ⟨rfl, rfl⟩
    refine va_put C.1 C.2.1 (hS5.ts args) (okX_ws hx) (zTY x) (okX_ty hx) (okX_nm hx) C.2.2.1 hS5.2.2.2.2.2.2.2.1 hH.1 hH.2.1 hS k hwd (vwCl_at x hx) y hy (hS5.word (okw_mem hw) rfl args) (fun _ q => q) (t6 q).2 t1 (by rw [(t6 q).1]; exact hb1.1) (by rw [(t6 q).1]; exact hb1.2) hlen hd (fun H1 locs1 g1 g2 g3 => k2 H1 locs1 (HK_hs hH hk (by rw [hkd, q]; exact q2) (fun _ _ => ⟨fun _ q' => by rw [hc] at q'; omega, fun q' => by omega⟩) (hE _ ?_) g1 g2) g3)
    unfold wfv; rw [hc, if_pos (Or.inr q)]; simp [vl]
  · have hn : in64 n := (okv_c hst).1
    refine va_put C.1 C.2.1 (hS5.ts args) (okX_ws hx) (zTY x) (okX_ty hx) (okX_nm hx) C.2.2.1 hS5.2.2.2.2.2.2.2.1 hH.1 hH.2.1 hS k hwd (vwCl_at x hx) y hy (hS5.word (okw_mem hw) rfl args) (fun _ q => q) (t5 q).2 t1 (by rw [(t5 q).1]; rfl) (by rw [(t5 q).1]; rfl) hlen hd (fun H1 locs1 g1 g2 g3 => k2 H1 locs1 (HK_hs hH hk (by rw [hkd, q]; exact hn) (fun _ _ => ⟨fun _ q' => by rw [hc] at q'; omega, fun q' => by omega⟩) (hE _ ?_) g1 g2) g3)
    unfold wfv; rw [hc, if_neg (by omega), if_pos q]; simp [vl]
  · have hq : k + zfo (64 * x + y) < zA b h := by
      rcases (okv_c hst).1 with g | g | g | g
      · exact g
      · have : ∀ n, n < 832 → zfo n ≤ 99 := by decide +kernel
        have hk2 : k < 123 := zck_lt k (by omega)
        have hN : zfN x ≤ 40 := by
          have : ∀ x, x < 13 → zfN x ≤ 40 := by decide
          exact this x hx
        have := this (64 * x + y) (by omega)
        omega
      · have : ∀ n, n < 832 → zfo n ≤ 99 := by decide +kernel
        have hk2 : k < 123 := zck_lt k (by omega)
        have hN : zfN x ≤ 40 := by
          have : ∀ x, x < 13 → zfN x ≤ 40 := by decide
          exact this x hx
        have := this (64 * x + y) (by omega)
        omega
      · have : ∀ n, n < 832 → zfo n ≤ 99 := by decide +kernel
        have hk2 : k < 123 := zck_lt k (by omega)
        have hN : zfN x ≤ 40 := by
          have : ∀ x, x < 13 → zfN x ≤ 40 := by decide
          exact this x hx
        have := this (64 * x + y) (by omega)
        omega
    refine va_putF C.1 C.2.1 (hS5.ts args) (okX_ws hx) (zTY x) (okX_ty hx) (okX_nm hx) C.2.2.1 hS5.2.2.2.2.2.2.2.1 hH.1 hH.2.1 hS k hwd (vwCl_at x hx) y hy (hS5.word (okw_mem hw) rfl args) (fun _ q => q) (t7 q).2 (by rw [C.2.2.2.2.2.1]; exact hname q3) (by rw [t2, q4]) t1 (narrow_ref (t7 q).1 _).1 (narrow_ref (t7 q).1 _).2 hlen hd (fun H1 locs1 g1 g2 g3 => k2 H1 locs1 (HK_hs hH hk (by rw [hkd, q]; trivial) (fun _ _ => ⟨fun _ _ => by rw [hc]; exact hq, fun q' => by omega⟩) (hE _ ?_) g1 g2) g3)
    unfold wfv; rw [hc, if_neg (by omega), if_neg (by omega), if_pos (Or.inr (by simp))]; simp [vl]
theorem go_aald {k : Nat} {i : Int} (C : Cx p R s m meth c D cA A sp Ls xs adV mi) (hd : decode (zmC mi) pc = .ok (.aaload, 1)) (hc : zck k = 23 ∨ zck k = 24) (h0 : 0 ≤ i) (h1 : i < zcn k) (hb : b = true ∨ h k i.toNat = 1)
    (K : Go p l e R s m args below meth c Qf D cA A sp Ls xs b c0 s0 a0 ρ0 mi (pc + 1) al (vr (zrb k + 14 * i.toNat) :: st) h) : Go p l e R s m args below meth c Qf D cA A sp Ls xs b c0 s0 a0 ρ0 mi pc al (vi i :: vr k :: st) h := by
  refine go_nh rfl (fun ρ H locs ls cells slots hH hS hL hst k2 => ?_) K
  have hi : in32 i := (okv_c hst).1
  have hk : k < zA b h := zck_of (okv_c (okv_c hst).2).1 (by omega)
  have hk2 : k < 123 := zck_lt k (by omega)
  have hb2 := (kinds k hk2).2.1 hc
  have hw : (wd ρ cA b h)[k]? = some (ρ k, .inl (cA (zck k), zcn k, .inr (.inr (.inr (.inr (wra ρ b (h k) k)))))) := by
    rw [wd_at hk]
    rcases hc with hc | hc <;> simp [wdc, hc]
  have hr : va_rf (wra ρ b (h k) k i.toNat) = .ref (ρ (zrb k + 14 * i.toNat)) := by
    unfold wra
    rw [if_pos hb]
    rfl
  have hok : okv (zA b h) (vr (zrb k + 14 * i.toNat)) := by
    left
    by_cases hb3 : b = true
    · unfold zA
      rw [if_pos hb3, zK_eq]
      omega
    · exact ((hH.2.2.1.2.2 (by simpa using hb3)).2 k hk _ (hb.resolve_left hb3)).2 hc
  have hkk := k2 ls hL (okv_p hok (okv_c (okv_c hst).2).2)
  rcases hc with hc | hc
  · rw [hc] at hw
    refine va_aldq C.1 C.2.1 C.2.2.2.2.1.2.2.2.2.2.2.2.1 hH.1 k 3 hw rfl (i32_vin hi h0 h1) hd ?_
    rw [i32_cl hi, hr]
    exact hkk
  · rw [hc] at hw
    refine va_aldq C.1 C.2.1 C.2.2.2.2.1.2.2.2.2.2.2.2.1 hH.1 k 4 hw rfl (i32_vin hi h0 h1) hd ?_
    rw [i32_cl hi, hr]
    exact hkk
end GOS
