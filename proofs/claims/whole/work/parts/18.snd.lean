theorem init_void : ∀ i, i < 381 → zmI i = true → zmT i = 0 := by decide +kernel
set_option maxHeartbeats 8000000 in
theorem snd (l : Launch) {D : va_G} {cA : Nat → ClassId} {A : Nat → Prop} {sp : Nat × Nat × Nat} {Ls : Nat} {xs : Nat → Int32} {adV : Nat → Nat} (b : Bool) : ∀ (n mi pc : Nat) (al st : List AV) (h : HP) (Q : PQ), wp b n mi pc al st h Q → ∀ {p : Program} {e : Env} {R : Room} {s : State} {m : MethodId} {args : Array Value} {below : List Frame} {meth : Method} {c : Code} {Qf : State → Prop} {c0 s0 a0 : Nat} {ρ0 : Nat → Nat} {aE : Nat}, Cx p R s m meth c D cA A sp Ls xs adV mi → Rt p l e R s m args below meth c Qf D cA A sp Ls xs b c0 s0 a0 ρ0 mi Q → (∀ r h', Q r h' → zA b h' ≤ aE) → c0 + (aE - a0) ≤ R.cells → s0 + (zsS aE - zsS a0) ≤ R.slots → Go p l e R s m args below meth c Qf D cA A sp Ls xs b c0 s0 a0 ρ0 mi pc al st h := by
  intro n
  induction n with
  | zero => intro mi pc al st h Q hw; exact hw.elim
  | succ n ih =>
    intro mi pc al st h Q hw p e R s m args below meth c Qf c0 s0 a0 ρ0 aE C hR hE hc1 hc2
    have hm := C.2.2.2.2.2.2.1
    unfold wp at hw
    cases hsx : sx b mi pc al st h with
    | none => rw [hsx] at hw; exact hw.elim
    | some rr =>
      rw [hsx] at hw
      rcases rr with ⟨pc', al', st', h'⟩ | r | ⟨mj, as, st'⟩
      · exact go_step C hsx (wp_le b aE n _ _ _ _ _ _ hw hE) hc1 hc2 (ih mi pc' al' st' h' Q hw C hR hE hc1 hc2)
      · obtain ⟨hk, rfl⟩ := sx_ret hm hsx
        intro ρ H locs ls hH hS hL hv ha hρ hn
        exact hR r h ρ H locs ls pc hw hH hS (fun v hv' => hv v (by rw [hv']; simp)) ha hρ hk
      · simp only at hw
        obtain ⟨k1, k2, k3, rfl, k5, k6, k7, k8⟩ := sx_call hm hsx
        have hmj : mj < 380 := law_top mj k1 (Nat.le_trans k2 (zmH_le mi hm))
        obtain ⟨r, h', hcont, hdet⟩ := wp_det b n _ _ _ _ _ _ hw
        have hle : zA b h ≤ zA b h' := wp_le b (zA b h') n _ _ _ _ _ _ hdet (fun r2 h2 q => by rw [q.2]; exact Nat.le_refl _)
        have hEc : zA b h' ≤ aE := wp_le b aE n _ _ _ _ _ _ hcont hE
        intro ρ H locs ls hH hS hL hv ha hρ hn
        have hoas : ∀ v ∈ as, okv (zA b h) v := fun v q => hv v (List.mem_append_left _ (List.mem_reverse.mpr q))
        have host : ∀ v ∈ st', okv (zA b h) v := fun v q => hv v (List.mem_append_right _ q)
        have M := met_of l (adV := adV) ih (ρ := ρ) hmj k7 hoas hle hdet
        obtain ⟨y1, y2, y3, y4, y5, y6, y7, y8, y9, y10, y11, y12, y13, y14⟩ := okY_f hmj
        have hS5 := C.2.2.2.2.1
        have hmono1 := zsS_mono (zA b h) (zA b h' - zA b h)
        rw [show zA b h + (zA b h' - zA b h) = zA b h' by omega] at hmono1
        have hmono0 := zsS_mono a0 (zA b h - a0)
        rw [show a0 + (zA b h - a0) = zA b h by omega] at hmono0
        have hmonoE := zsS_mono (zA b h') (aE - zA b h')
        rw [show zA b h' + (aE - zA b h') = aE by omega] at hmonoE
        have hcc : c0 + (zA b h - a0) + (zA b h' - zA b h) ≤ R.cells ∧ s0 + (zsS (zA b h) - zsS a0) + (zsS (zA b h') - zsS (zA b h)) ≤ R.slots := by omega
        have hfr : zmH mj + 1 ≤ R.frames ∧ 8 + (zmL mj + 11) + zmW mj ≤ R.locals := by
          have q1 := C.2.2.2.2.2.2.2.1
          have q2 := C.2.2.2.2.2.2.2.2
          omega
        have hCP : ∀ U : State, U.heap = H → s.WarmedH U.vm → CP D cA A sp Ls xs adV b ρ h as (as.map (vl ρ)).toArray U := fun U hU hW => ⟨rfl, hS5.moved hW (by rw [hU]; exact hS.1) (fun q g1 g2 => by rw [hU]; exact hS.2.1 q g1 g2), by rw [hU]; exact hH⟩
        have hstk : (as.reverse ++ st').map (vl ρ) = (as.map (vl ρ)).reverse ++ st'.map (vl ρ) := by simp
        have hroom : 2 * (F0 m pc ls ((as.reverse ++ st').map (vl ρ))).monitorRoom + ((st'.map (vl ρ)).map fun v => v.category).sum ≤ 8 := lv_room (by rw [sum_cat]; exact k6)
        have hfix : CallFix p m c (zmC mi) (zmL mi) s args zTs (zcN (zmK mi)) := ⟨C.1, C.2.1, C.2.2.2.1, C.2.2.1, hS5.ts _⟩
        have hsize : (F0 m pc ls ((as.reverse ++ st').map (vl ρ))).locals.size = zmL mi := hL.1.trans hn
        have kk : ∀ (v : Option Value) (sst t : State) (H1 : Heap) (locs1 : List Loc), t.heap = H1 → sst.heap = H → s.vm.Alike t.vm → CQ D cA A sp Ls xs b ρ (zA b h) r h' (as.map (vl ρ)).toArray sst (.returned v) t → va_S A s.heap H1 locs1 → W p l e R s m args below meth c H1 locs1 (c0 + (zA b h - a0) + (zA b h' - zA b h)) (s0 + (zsS (zA b h) - zsS a0) + (zsS (zA b h') - zsS (zA b h))) Qf (F0 m (pc + 3) ls (v.toList ++ st'.map (vl ρ))) := by
          intro v sst t H1 locs1 g1 g2 g3 g4 g5
          obtain ⟨⟨ρ', q1, q2, q3, q4⟩, -⟩ := g4
          rw [g1] at q2
          have q1 : v = r.map (vl ρ') := by simpa using q1
          subst q1
          have hag : ∀ k, k < zA b h ∨ k = 1000 ∨ k = 2000 ∨ k = 2001 → ρ' k = ρ k := by
            intro k hk
            rcases hk with hk | hk | hk | hk
            · exact q3 k hk
            · rw [hk, q2.2.2.2.1, hH.2.2.2.1]
            · rw [hk, q2.2.2.2.2.1, hH.2.2.2.2.1]
            · rw [hk, q2.2.2.2.2.2.1, hH.2.2.2.2.2.1]
          have e1 : (r.map (vl ρ')).toList ++ st'.map (vl ρ) = (r.toList ++ st').map (vl ρ') := by
            rw [List.map_append]
            congr 1
            · cases r <;> rfl
            · apply List.map_congr_left
              intro v hv'
              exact (vl_ext (host v hv') hag).symm
          have e2 : c0 + (zA b h - a0) + (zA b h' - zA b h) = c0 + (zA b h' - a0) := by omega
          have e3 : s0 + (zsS (zA b h) - zsS a0) + (zsS (zA b h') - zsS (zA b h)) = s0 + (zsS (zA b h') - zsS a0) := by omega
          rw [e1, e2, e3]
          refine ih mi (pc + 3) al (r.toList ++ st') h' Q hcont C hR hE hc1 hc2 ρ' H1 locs1 ls q2 g5 (hL.ext hle hag) (fun v hv' => ?_) (Nat.le_trans ha hle) (fun k hk => by rw [hag k (Or.inl (by omega))]; exact hρ k hk) hn
          rcases List.mem_append.mp hv' with g | g
          · exact q4 v (by simpa using g)
          · exact okv_le hle (host v g)
        have hcode := zcode_good (okw_mem y1)
        have hini := hS5.word (okw_mem y5) rfl args
        have hFQ : ∀ (st t : State) (o : Outcome), CQ D cA A sp Ls xs b ρ (zA b h) r h' (as.map (vl ρ)).toArray st o t → va_F A st t := fun _ _ _ q => q.2
        have recv : ∀ (k : Nat) (as' : List AV), as = vr k :: as' → zck k = zmK mj → k < zA b h ∧ zmK mj < 13 := by
          intro k as' e1 e2
          have q1 := zmK_lt mj k1
          have hk : k < zA b h := zck_of (hoas (vr k) (by rw [e1]; simp)) (by omega)
          have q2 := (kinds k (zck_lt k (by omega))).1
          exact ⟨hk, by omega⟩
        obtain ⟨idx, z, hk⟩ := k8
        rcases hk with ⟨d1, d2, d3, d4, k, as', d5, d6⟩ | ⟨d1, d2, d3⟩ | ⟨d1, d2, d3⟩ | ⟨d1, d2, d3, d4, k, as', d5, d6⟩ | ⟨d1, d2, d3, d4, k, as', d5, d6⟩
        · obtain ⟨hk, hx⟩ := recv k as' d5 d6
          have hna : (as'.map (vl ρ)).length = zmA mj - 1 := by rw [List.length_map, ← k5, d5]; simp
          have hrv := va_recv hS5.2.2.2.2.2.2.2.1 hH.1 (vwCl_at (zmK mj) hx) (show (wd ρ cA b h)[k]? = some (ρ k, .inr (zmK mj, (List.range (zfN (zmK mj))).map (wfv ρ b (h k) k))) by rw [wd_at hk, wdc_obj (by omega), d6])
          have hargs : (Value.ref (ρ k) :: as'.map (vl ρ)).toArray = (as.map (vl ρ)).toArray := by rw [d5]; rfl
          refine xcall (va_runV (As := as'.map (vl ρ)) (b := ρ k) (rest := st'.map (vl ρ)) (C := zcN (zmK mj)) hfix M ⟨callB_of (zmA mj - 1) (hS5.ts _) hcode rfl rfl rfl hini (hS5.word (okw_mem d2) rfl _) ⟨y8, y9, by rw [y10, d3]; rfl⟩ hfr, hS5.word (okw_mem (y3 d3)) rfl _, hS5.word (okw_mem (y4 d3 d4)) rfl _⟩ ⟨CP.blind, hrv, fun U hU hW => by rw [hargs]; exact hCP U hU hW⟩ rfl hna hsize (by show (as.reverse ++ st').map (vl ρ) = _; rw [hstk, d5]; simp [vl]) hroom d1 hcc) hS (by rw [hargs]; exact hFQ) (by rw [hargs]; exact kk)
        · have hna : (as.map (vl ρ)).length = zmA mj := by rw [List.length_map, k5]
          exact xcall (va_runS (As := as.map (vl ρ)) (rest := st'.map (vl ρ)) hfix M ⟨callB_of (zmA mj) (hS5.ts _) hcode rfl rfl rfl hini (hS5.word (okw_mem d2) rfl _) ⟨y8, y9, by rw [y10, d3]; rfl⟩ hfr, hS5.word (okw_mem (y2 d3)) rfl _⟩ ⟨CP.blind, hCP⟩ rfl hna hsize hstk hroom d1 hcc) hS hFQ kk
        · have hna : (as.map (vl ρ)).length = zmA mj := by rw [List.length_map, k5]
          exact xcall (va_runSN (As := as.map (vl ρ)) (rest := st'.map (vl ρ)) hfix M ⟨va_cnB (zmA mj) (hS5.ts _) hcode rfl rfl rfl (hS5.2.1 _ _ _ _ (okw_mem d2)) hini ⟨y8, y9, by rw [y10, d3]; rfl⟩ hfr, hS5.word (okw_mem (y2 d3)) rfl _, trivial⟩ ⟨CP.blind, hCP⟩ rfl hna hsize hstk hroom d1 hcc) hS hFQ kk
        · have hna : (as'.map (vl ρ)).length = zmA mj - 1 := by rw [List.length_map, ← k5, d5]; simp
          have hargs : (Value.ref (ρ k) :: as'.map (vl ρ)).toArray = (as.map (vl ρ)).toArray := by rw [d5]; rfl
          have hnone : zmR mj = none := by rw [y13, if_pos (init_void mj k1 d4)]
          rw [hnone] at M hcode
          refine xcall (va_runI (As := as'.map (vl ρ)) (b := ρ k) (rest := st'.map (vl ρ)) hfix M ⟨callB_of (zmA mj - 1) (hS5.ts _) hcode rfl rfl rfl hini (hS5.word (okw_mem d2) rfl _) ⟨y8, y9, by rw [y10, d3]; rfl⟩ hfr, y12.mp d4, hS5.word (okw_mem (y3 d3)) rfl _⟩ ⟨CP.blind, fun U hU hW => by rw [hargs]; exact hCP U hU hW⟩ rfl hna hsize (by show (as.reverse ++ st').map (vl ρ) = _; rw [hstk, d5]; simp [vl]) hroom d1 hcc) hS (by rw [hargs]; exact hFQ) (by rw [hargs]; exact kk)
        · have hna : (as'.map (vl ρ)).length = zmA mj - 1 := by rw [List.length_map, ← k5, d5]; simp
          have hargs : (Value.ref (ρ k) :: as'.map (vl ρ)).toArray = (as.map (vl ρ)).toArray := by rw [d5]; rfl
          have hnone : zmR mj = none := by rw [y13, if_pos (init_void mj k1 d4)]
          rw [hnone] at M hcode
          refine xcall (va_runIN (As := as'.map (vl ρ)) (b := ρ k) (rest := st'.map (vl ρ)) hfix M ⟨va_cnB (zmA mj - 1) (hS5.ts _) hcode rfl rfl rfl (hS5.2.1 _ _ _ _ (okw_mem d2)) hini ⟨y8, y9, by rw [y10, d3]; rfl⟩ hfr, y12.mp d4, hS5.word (okw_mem (y3 d3)) rfl _⟩ ⟨CP.blind, fun U hU hW => by rw [hargs]; exact hCP U hU hW⟩ rfl hna hsize (by show (as.reverse ++ st').map (vl ρ) = _; rw [hstk, d5]; simp [vl]) hroom d1 hcc) hS (by rw [hargs]; exact hFQ) (by rw [hargs]; exact kk)
