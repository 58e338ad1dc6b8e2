/-! ===== the start: what is given of the machine, as the numbers' world asks it ===== -/
def sta_tm (i : Nat) : Term := if i = 0 then .string "ChalkRoom$Tokens" 54 else .string "ChalkRoomModel" 183
def sta_b (i : Nat) : Nat := if i = 0 then 35 else 171
def sta_gv : List Jvm.Cond := flatC (Jvm.Cond.and given_1 narrow_1)
theorem sta_at {args : Array Value} {s : State} (h : (Jvm.Cond.and given_1 narrow_1).before args s = true) {k : Nat} {w : Jvm.Cond} (hk : sta_gv[k]? = some w) : w.before args s = true := flat_of_before _ h _ (List.mem_of_getElem? hk)
theorem sta_w0 : ∀ i, i < 2 → sta_gv[sta_b i]? = some (.exactly (sta_tm i) "java/lang/String") ∧ sta_gv[sta_b i + 1]? = some (.eq (.field (sta_tm i) "java/lang/String" "coder" "B") (.int 0)) ∧ sta_gv[sta_b i + 2]? = some (.arrayOf (.field (sta_tm i) "java/lang/String" "value" "[B") .byte) ∧ sta_gv[sta_b i + 3]? = some (.eq (.length (.field (sta_tm i) "java/lang/String" "value" "[B")) (.int (Int32.ofNat (ZLen.getD i 0)))) := by decide +kernel
theorem sta_w1 : ∀ i, i < 2 → ∀ j, j < ZLen.getD i 0 → sta_gv[sta_b i + 4 + j]? = some (.eq (.elem (.field (sta_tm i) "java/lang/String" "value" "[B") (.int (Int32.ofNat j))) (.int ((ZByt.getD i []).getD j 0))) := by decide +kernel
theorem sta_w2 : sta_gv[286]? = some (.not (.eq (sta_tm 0) (sta_tm 1))) := by decide +kernel
theorem sta_w3 : sta_gv[4]? = some (.eq (.static "java/lang/String" "COMPACT_STRINGS" "Z") (.int 1)) ∧ sta_gv[5]? = some (.isRef (.static "jdk/internal/util/Preconditions" "SIOOBE_FORMATTER" "Ljava/util/function/BiFunction;")) := by decide +kernel
theorem sta_str {args : Array Value} {s : State} (h : (Jvm.Cond.and given_1 narrow_1).before args s = true) : ∃ adK adV : Nat → Nat, vk_S 2 ZLen ZByt adK adV (fun q => s.heap.size ≤ q) s s.heap ∧ ∀ i : Nat, i < 2 → (sta_tm i).eval args s none [] s = some (.ref (adK i)) := by
  refine vk_Sof (tm := sta_tm) (by decide +kernel) (fun i hi => sta_at h (sta_w0 i hi).1) (fun i hi => sta_at h (sta_w0 i hi).2.1) (fun i hi => sta_at h (sta_w0 i hi).2.2.1) (fun i hi => sta_at h (sta_w0 i hi).2.2.2) (fun i hi j hj => sta_at h (sta_w1 i hi j hj)) (fun i j hi hj hne => ?_) (fun a ha => Nat.not_le.mpr ha)
  rcases (show (i = 0 ∧ j = 1) ∨ (i = 1 ∧ j = 0) by omega) with ⟨rfl, rfl⟩ | ⟨rfl, rfl⟩
  · exact Or.inl (sta_at h sta_w2)
  · exact Or.inr (sta_at h sta_w2)
theorem sta_i : ∀ x, x < 13 → okw (lw_tbl.findIdx (fun w => decide (w = .instantiable (zcN x) (zfN x)))) (.instantiable (zcN x) (zfN x)) = true := by decide +kernel
theorem sta_K {args : Array Value} {s : State} (hts : ∀ w ∈ lw_tbl, w.before args s = true) : ∃ (D : va_G) (cA : Nat → ClassId), va_K D vwCl (ztys cA) s := by
  have kn : ∀ x : Nat, x < 13 → ∃ (cC : ClassId) (iS : Nat → Nat), u_Kn s (zcN x) (zTX x) (zfN x) cC iS := fun x hx =>
    u_known (n := zfN x) (ws := zTs) (fun w hw => hts w (List.mem_filter.mp hw).1) (okX_ws hx) (hts (.instantiable (zcN x) (zfN x)) (okw_mem (sta_i x hx)))
  obtain ⟨c0, i0, -⟩ := kn 0 (by decide)
  have kk : ∀ x : Nat, ∃ q : ClassId × (Nat → Nat), x < 13 → u_Kn s (zcN x) (zTX x) (zfN x) q.1 q.2 := by
    intro x
    by_cases hx : x < 13
    · obtain ⟨a, b, hab⟩ := kn x hx
      exact ⟨(a, b), fun _ => hab⟩
    · exact ⟨(c0, i0), fun q => absurd q hx⟩
  obtain ⟨ad, had⟩ := Classical.axiomOfChoice kk
  obtain ⟨cI, kI, pI, a1, a2, a3⟩ := Cond.arrayClass_spec (hts (.arrayClass .int) (by decide +kernel))
  obtain ⟨cJ, kJ, pJ, b1, b2, b3⟩ := Cond.arrayClass_spec (hts (.arrayClass .long) (by decide +kernel))
  obtain ⟨cB, kB, pB, d1, d2, d3⟩ := Cond.arrayClass_spec (hts (.arrayClass .byte) (by decide +kernel))
  obtain ⟨pF, cF, kF, e1, e2, e3, e4, e5⟩ := Cond.arrayOver_spec (hts (.arrayOver (.object "ChalkRoom$Floor")) (by decide +kernel))
  obtain ⟨pT, cT, kT, f1, f2, f3, f4, f5⟩ := Cond.arrayOver_spec (hts (.arrayOver (.object "ChalkRoom$Talks")) (by decide +kernel))
  refine ⟨(fun x => (ad x).1, fun x => (ad x).2), (fun i => if i = 20 then cI else if i = 21 then cJ else if i = 22 then cB else if i = 23 then cF else cT), ?_, ?_⟩
  · intro x q hq
    have hx : x < 13 := (List.getElem?_eq_some_iff.mp hq).1
    rw [vwCl_at x hx] at hq
    cases hq
    exact had x hx
  · intro k q hq
    match k, hq with
    | 0, hq => cases hq; exact ⟨fun n z => ⟨fun k h => (by cases h), kI, a2, pI, a3⟩, a1⟩
    | 1, hq => cases hq; exact ⟨fun n z => ⟨fun k h => (by cases h), kJ, b2, pJ, b3⟩, b1⟩
    | 2, hq => cases hq; exact ⟨fun n z => ⟨fun k h => (by cases h), kB, d2, pB, d3⟩, d1⟩
    | 3, hq => cases hq; exact ⟨fun n z => ⟨fun k h => (by cases h), kF, e3, pF, e4⟩, ⟨kF, pF, e3, e4, e1, e5⟩⟩
    | 4, hq => cases hq; exact ⟨fun n z => ⟨fun k h => (by cases h), kT, f3, pT, f4⟩, ⟨kT, pT, f3, f4, f1, f5⟩⟩
    | k + 5, hq => simp [ztys] at hq
theorem sta_SS {s : State} {b L : Nat} {xs : Nat → Int32} (hts : ∀ w ∈ lw_tbl, w.before #[Value.ref b] s = true) (hX : va_X b L xs s s.heap) (hbl : b < s.heap.size) (hgv : (Jvm.Cond.and given_1 narrow_1).before #[Value.ref b] s = true) : ∃ (D : va_G) (cA : Nat → ClassId) (adV : Nat → Nat) (q1 q2 : Nat), SS D cA (fun q => s.heap.size ≤ q) (b, q1, q2) L xs adV s := by
  obtain ⟨D, cA, hK⟩ := sta_K hts
  obtain ⟨adK, adV, hV, hE⟩ := sta_str hgv
  have hA : ∀ a : Nat, a < s.heap.size → ¬ (fun q : Nat => s.heap.size ≤ q) a := fun a ha => Nat.not_le.mpr ha
  have e : ∀ i : Nat, i < 2 → (fun i : Nat => if i = 0 then adK 0 else adK 1) i = adK i := by
    intro i hi
    rcases (show i = 0 ∨ i = 1 by omega) with rfl | rfl <;> rfl
  refine ⟨D, cA, adV, adK 0, adK 1, fun w hw hg => word_at (State.WarmedH.refl s) (good_of_word hg) (hts w hw), fun a i x g hw => va_Nw.of rfl (hts _ hw), ⟨va_AO.of (hts (.arrayOver (.object "ChalkRoom$Floor")) (by decide +kernel)), va_AO.of (hts (.arrayOver (.object "ChalkRoom$Talks")) (by decide +kernel))⟩, ⟨vk_R.of (hts (.stringRef "ChalkRoom$Tokens" 54 ZT0) (by decide +kernel)) (hE 0 (by decide)), vk_R.of (hts (.stringRef "ChalkRoomModel" 183 ZT1) (by decide +kernel)) (hE 1 (by decide))⟩, ?_, ?_, ?_, hK, ⟨hX, hbl, Nat.not_le.mpr hbl⟩, fun q h => h⟩
  · refine ⟨fun i hi => ?_, fun i j hi hj q => hV.2 i j hi hj ?_⟩
    · have := hV.1 i hi
      rw [← e i hi] at this
      exact this
    · exact (e i hi).symm.trans (q.trans (e j hj))
  · exact va_Zof (hts (.laysStatic "java/lang/String" "COMPACT_STRINGS" "Z") (by decide +kernel)) (hts (.initialized "java/lang/String") (by decide +kernel)) (va_eqi (sta_at hgv sta_w3.1)) hA
  · exact va_Zqof (hts (.laysStatic "jdk/internal/util/Preconditions" "SIOOBE_FORMATTER" "Ljava/util/function/BiFunction;") (by decide +kernel)) (hts (.initialized "jdk/internal/util/Preconditions") (by decide +kernel)) (sta_at hgv sta_w3.2) hA
