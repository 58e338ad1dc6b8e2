theorem wdc_ext {ρ ρ' : Nat → Nat} {cA : Nat → ClassId} {hk : Nat → Int} {k : Nat} (hk2 : k < 123) (h1 : zck k < 20 → ∀ j, zfk (64 * zck k + j) = 4 → hk j = 1 → ρ' (k + zfo (64 * zck k + j)) = ρ (k + zfo (64 * zck k + j))) (h2 : zck k = 23 ∨ zck k = 24 → ∀ j, hk j = 1 → ρ' (zrb k + 14 * j) = ρ (zrb k + 14 * j)) : wdc ρ' cA false hk k = wdc ρ cA false hk k := by
  obtain ⟨hkd, -⟩ := kinds k hk2
  unfold wdc
  by_cases hc : zck k < 20
  · rw [if_pos hc, if_pos hc]
    congr 2
    apply List.map_congr_left
    intro j hj
    have hj2 := List.mem_range.mp hj
    obtain ⟨-, -, -, -, -, -, -, h8⟩ := okX_f (x := zck k) (y := j) (by omega) hj2
    unfold wfv
    rcases h8 with q | q | q | q
    · rw [if_pos (Or.inl q), if_pos (Or.inl q)]
    · have n1 : ¬ (zfk (64 * zck k + j) = 0 ∨ zfk (64 * zck k + j) = 3) := by omega
      simp only [if_neg n1, if_pos q]
    · rw [if_pos (Or.inr q), if_pos (Or.inr q)]
    · have n1 : ¬ (zfk (64 * zck k + j) = 0 ∨ zfk (64 * zck k + j) = 3) := by omega
      have n2 : ¬ (zfk (64 * zck k + j) = 1) := by omega
      simp only [if_neg n1, if_neg n2]
      by_cases e : hk j = 1
      · rw [if_pos (Or.inr e), if_pos (Or.inr e), h1 hc j q e]
      · rw [if_neg (by simp [e]), if_neg (by simp [e])]
  · rw [if_neg hc, if_neg hc]
    by_cases q : zck k = 20 ∨ zck k = 22
    · rw [if_pos q, if_pos q]
    · by_cases q2 : zck k = 21
      · rw [if_neg q, if_neg q, if_pos q2, if_pos q2]
      · rw [if_neg q, if_neg q, if_neg q2, if_neg q2]
        congr 7
        funext j
        unfold wra
        by_cases e : hk j = 1
        · rw [if_pos (Or.inr e), if_pos (Or.inr e), h2 (by omega) j e]
        · rw [if_neg (by simp [e]), if_neg (by simp [e])]
theorem zsS_mono : ∀ (a d : Nat), zsS a ≤ zsS (a + d)
  | a, 0 => Nat.le_refl _
  | a, d + 1 => Nat.le_trans (zsS_mono a d) (by show zsS (a + d) ≤ zsS (a + d) + zsz (a + d); omega)
theorem vl_ext {ρ ρ' : Nat → Nat} {a : Nat} {v : AV} (h : okv a v) (hρ : ∀ k, k < a ∨ k = 1000 ∨ k = 2000 ∨ k = 2001 → ρ' k = ρ k) : vl ρ' v = vl ρ v := by
  rcases v with z | z | k
  · rfl
  · rfl
  · simp only [vl]
    rw [hρ k h]
theorem okv_le {a a' : Nat} {v : AV} (ha : a ≤ a') (h : okv a v) : okv a' v := by
  rcases v with z | z | k
  · exact h
  · exact h
  · rcases h with h | h
    · exact Or.inl (Nat.lt_of_lt_of_le h ha)
    · exact Or.inr h
theorem LV.ext {ρ ρ' : Nat → Nat} {a a' : Nat} {ls : Array Slot} {al : List AV} (h : LV ρ a ls al) (ha : a ≤ a') (hρ : ∀ k, k < a ∨ k = 1000 ∨ k = 2000 ∨ k = 2001 → ρ' k = ρ k) : LV ρ' a' ls al := by
  refine ⟨h.1, h.2.1, fun i v hv => ?_⟩
  rcases h.2.2 i v hv with e | ⟨e1, e2⟩
  · exact Or.inl e
  · exact Or.inr ⟨okv_le ha e1, by rw [vl_ext e1 hρ]; exact e2⟩
section GOA
variable {p : Program} {l : Launch} {e : Env} {R : Room} {s : State} {m : MethodId} {args : Array Value} {below : List Frame} {meth : Method} {c : Code} {Qf : State → Prop} {D : va_G} {cA : Nat → ClassId} {A : Nat → Prop} {sp : Nat × Nat × Nat} {Ls : Nat} {xs : Nat → Int32} {adV : Nat → Nat} {c0 s0 a0 : Nat} {ρ0 : Nat → Nat} {mi pc : Nat} {al st : List AV} {h : HP}
/-- a new cell -/
theorem go_cell {pc' : Nat} {st' : List AV} (hK : zal h < zK) (hsub : ∀ v ∈ st', v ∈ st)
    (row : ∀ (ρ : Nat → Nat) (H : Heap) (locs : List Loc) (ls : Array Slot) (cells slots : Nat), HK D cA A sp Ls xs false ρ h H → va_S A s.heap H locs → LV ρ (zal h) ls al → (∀ v ∈ st, okv (zal h) v) → cells + 1 ≤ R.cells → slots + zsz (zal h) ≤ R.slots →
      (∀ (q : Nat) (H1 : Heap), va_P D vwCl (wd ρ cA false h ++ [(q, wdc ρ cA false (fun _ => 0) (zal h))]) H1 → va_D A (wd ρ cA false h ++ [(q, wdc ρ cA false (fun _ => 0) (zal h))]) → va_S A s.heap H1 locs → W p l e R s m args below meth c H1 locs (cells + 1) (slots + zsz (zal h)) Qf (F0 m pc' ls (.ref q :: st'.map (vl ρ)))) → W p l e R s m args below meth c H locs cells slots Qf (F0 m pc ls (st.map (vl ρ))))
    (hcap : c0 + (zal h + 1 - a0) ≤ R.cells ∧ s0 + (zsS (zal h + 1) - zsS a0) ≤ R.slots)
    (K : Go p l e R s m args below meth c Qf D cA A sp Ls xs false c0 s0 a0 ρ0 mi pc' al (vr (zal h) :: st') (hs h 1002 0 ((zal h + 1 : Nat) : Int))) : Go p l e R s m args below meth c Qf D cA A sp Ls xs false c0 s0 a0 ρ0 mi pc al st h := by
  intro ρ H locs ls hH hS hL hv ha hρ hn
  have hz : zA false h = zal h := rfl
  rw [hz] at hL hv ha ⊢
  have hz' : zA false (hs h 1002 0 ((zal h + 1 : Nat) : Int)) = zal h + 1 := by
    show ((hs h 1002 0 ((zal h + 1 : Nat) : Int)) 1002 0).toNat = _
    simp [hs]
  rw [zK_eq] at hK
  have hmono := zsS_mono a0 (zal h - a0)
  rw [show a0 + (zal h - a0) = zal h by omega] at hmono
  have hsucc : zsS (zal h + 1) = zsS (zal h) + zsz (zal h) := rfl
  refine row ρ H locs ls _ _ hH hS hL hv (by omega) (by omega) (fun q H1 g1 g2 g3 => ?_)
  obtain ⟨-, -, o1, o2, o3, o4, o5, o6, o7⟩ := hH
  obtain ⟨p1, p2, p3⟩ := o1
  obtain ⟨p4, p5⟩ := p3 rfl
  rw [hz] at p1 p2 p4 p5
  have hag : ∀ k, k < zal h ∨ k = 1000 ∨ k = 2000 ∨ k = 2001 → (fun k => if k = zal h then q else ρ k) k = ρ k := by
    intro k hk
    have : ¬ k = zal h := by omega
    simp only [if_neg this]
  have hne : ∀ k, k ≠ 1002 → hs h 1002 0 ((zal h + 1 : Nat) : Int) k = h k := fun k hk => hs_ne hk
  have hw : wd (fun k => if k = zal h then q else ρ k) cA false (hs h 1002 0 ((zal h + 1 : Nat) : Int)) = wd ρ cA false h ++ [(q, wdc ρ cA false (fun _ => 0) (zal h))] := by
    unfold wd
    rw [hz', hz, List.range_succ, List.map_append]
    congr 1
    · apply List.map_congr_left
      intro k hk
      have hk2 := List.mem_range.mp hk
      rw [hne k (by omega)]
      have e1 : (if k = zal h then q else ρ k) = ρ k := hag k (Or.inl hk2)
      show ((if k = zal h then q else ρ k), _) = _
      rw [e1]
      congr 1
      exact wdc_ext (by omega) (fun hc j hj hj1 => hag _ (Or.inl ((p5 k hk2 j hj1).1 hc hj))) (fun hc j hj1 => hag _ (Or.inl ((p5 k hk2 j hj1).2 hc)))
    · simp only [List.map_cons, List.map_nil, if_pos rfl]
      rw [hne (zal h) (by omega)]
      have e0 : h (zal h) = fun _ => 0 := by
        funext j
        exact p4 _ (Nat.le_refl _) (by rw [zK_eq]; omega) j
      rw [e0]
      rw [wdc_ext (ρ := ρ) (ρ' := fun k => if k = zal h then q else ρ k) (by omega) (fun hc j hj hj1 => by simp at hj1) (fun hc j hj1 => by simp at hj1), if_pos trivial]
  have hcells : c0 + (zal h - a0) + 1 = c0 + (zal h + 1 - a0) := by omega
  have hslots : s0 + (zsS (zal h) - zsS a0) + zsz (zal h) = s0 + (zsS (zal h + 1) - zsS a0) := by omega
  rw [hcells, hslots]
  have hH' : HK D cA A sp Ls xs false (fun k => if k = zal h then q else ρ k) (hs h 1002 0 ((zal h + 1 : Nat) : Int)) H1 := by
    refine ⟨by rw [hw]; exact g1, by rw [hw]; exact g2, ⟨by rw [hz', zK_eq]; omega, fun k hk j => ?_, fun _ => ⟨fun k h1 h2 j => ?_, fun k hk j hj => ?_⟩⟩, ?_, ?_, ?_, ?_, ?_, o7⟩
    · rw [hz'] at hk
      rw [hne k (by omega)]
      by_cases e : k = zal h
      · rw [p4 k (by omega) (by rw [zK_eq]; omega) j]
        unfold rgk in32 in64
        repeat' split
        all_goals first | omega | trivial
      · exact p2 k (by omega) j
    · rw [hz'] at h1
      rw [zK_eq] at h2
      rw [hne k (by omega)]
      exact p4 k (by omega) (by rw [zK_eq]; omega) j
    · rw [hz'] at hk ⊢
      rw [hne k (by omega)] at hj
      by_cases e : k = zal h
      · rw [p4 k (by omega) (by rw [zK_eq]; omega) j] at hj
        omega
      · have := p5 k (by omega) j hj
        exact ⟨fun a1 a2 => by have := this.1 a1 a2; omega, fun a1 => by have := this.2 a1; omega⟩
    · rw [hag 1000 (by omega)]; exact o2
    · rw [hag 2000 (by omega)]; exact o3
    · rw [hag 2001 (by omega)]; exact o4
    · rw [hne _ (by omega)]; exact o5
    · rw [hne _ (by omega)]; exact o6
  have := K (fun k => if k = zal h then q else ρ k) H1 locs ls hH' g3 (by rw [hz']; exact hL.ext (by omega) hag) (by
    rw [hz']
    refine okv_p (show okv _ (vr (zal h)) from Or.inl (by omega)) (fun v hv' => okv_le (by omega) (hv v (hsub v hv')))) (by rw [hz']; omega) (fun k hk => (hag k (Or.inl (by omega))).trans (hρ k hk)) hn
  rw [hz'] at this
  have e3 : (vr (zal h) :: st').map (vl (fun k => if k = zal h then q else ρ k)) = .ref q :: st'.map (vl ρ) := by
    rw [List.map_cons]
    congr 1
    · simp [vl]
    · apply List.map_congr_left
      intro v hv'
      exact vl_ext (hv v (hsub v hv')) hag
  rw [e3] at this
  exact this
theorem go_new {x idx z : Nat} (C : Cx p R s m meth c D cA A sp Ls xs adV mi) (hd : decode (zmC mi) pc = .ok (.new idx, 3)) (hx : x < 13) (hw : okw z (.classLink (zcN (zmK mi)) idx (zcN x)) = true) (hc : zck (zal h) = x) (hK : zal h < zK)
    (hcap : c0 + (zal h + 1 - a0) ≤ R.cells ∧ s0 + (zsS (zal h + 1) - zsS a0) ≤ R.slots)
    (K : Go p l e R s m args below meth c Qf D cA A sp Ls xs false c0 s0 a0 ρ0 mi (pc + 3) al (vr (zal h) :: st) (hs h 1002 0 ((zal h + 1 : Nat) : Int))) : Go p l e R s m args below meth c Qf D cA A sp Ls xs false c0 s0 a0 ρ0 mi pc al st h := by
  refine go_cell hK (fun v hv => hv) (fun ρ H locs ls cells slots hH hS hL hst h1 h2 k2 => ?_) hcap K
  have hS5 := C.2.2.2.2.1
  have hsz : zsz (zal h) = zfN x := by unfold zsz; rw [if_pos (by omega), hc]
  have hin : ∀ x, x < 13 → okw (lw_tbl.findIdx (fun w => decide (w = .instantiable (zcN x) (zfN x)))) (.instantiable (zcN x) (zfN x)) = true ∧ okw (lw_tbl.findIdx (fun w => decide (w = .initialized (zcN x)))) (.initialized (zcN x)) = true := by decide +kernel
  obtain ⟨i1, i2⟩ := hin x hx
  have hE : wdc ρ cA false (fun _ => 0) (zal h) = .inr (x, (List.range (zfN x)).map (wfv ρ false (fun _ => 0) (zal h))) := by rw [wdc_obj (by omega), hc]
  rw [hE, hsz] at k2
  rw [hsz] at h2
  refine va_new C.1 C.2.1 (hS5.ts args) (okX_ws hx) (zTY x) (okX_ty hx) C.2.2.1 (hS5.word (okw_mem hw) rfl args) (hS5.word (okw_mem i1) rfl args) (hS5.word (okw_mem i2) rfl args) hS5.2.2.2.2.2.2.2.1 hH.1 hH.2.1 hS hS5.2.2.2.2.2.2.2.2.2 (vwCl_at x hx) (fun j hj => ?_) h1 h2 hd k2
  obtain ⟨-, -, -, t4, t5, t6, t7, t8⟩ := okX_f hx hj
  have e1 : vp_V ((List.range (zfN x)).map (wfv ρ false (fun _ => 0) (zal h))) j = wfv ρ false (fun _ => 0) (zal h) j := by
    unfold vp_V
    rw [List.getD_eq_getElem?_getD, List.getElem?_map, List.getElem?_range hj]
    rfl
  rw [e1]
  unfold wfv
  rw [hc]
  rcases t8 with q | q | q | q
  · rw [if_pos (Or.inl q), (t4 q).1]; rfl
  · rw [if_neg (by omega), if_pos q, (t5 q).1]; rfl
  · rw [if_pos (Or.inr q), (t6 q).1]; rfl
  · rw [if_neg (by omega), if_neg (by omega), if_neg (by simp)]
    have := (t7 q).1
    generalize zTY x j = ty at this ⊢
    cases ty <;> simp [refKind] at this <;> rfl
end GOA
