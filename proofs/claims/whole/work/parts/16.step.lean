theorem b8_of {n : Int} (h1 : -128 ≤ n) (h2 : n ≤ 127) : (Int8.ofInt n).toInt32 = Int32.ofInt n := by
  apply Int32.toInt_inj.1
  rw [Int8.toInt_toInt32, Int8.toInt_ofInt, i32_t (by unfold in32; omega)]
  show Int.bmod n (2 ^ 8) = n
  exact Int.bmod_eq_of_le (by omega) (by omega)
theorem s16_of {n : Int} (h1 : -32768 ≤ n) (h2 : n ≤ 32767) : (Int16.ofInt n).toInt32 = Int32.ofInt n := by
  apply Int32.toInt_inj.1
  rw [Int16.toInt_toInt32, Int16.toInt_ofInt, i32_t (by unfold in32; omega)]
  show Int.bmod n (2 ^ 16) = n
  exact Int.bmod_eq_of_le (by omega) (by omega)
theorem entry_ok {mi pc : Nat} {I : Instr} {len x y z : Nat} {c : Int} (hm : mi < 381) (h : zfetch mi pc = some (I, len, x, y, z, c)) : decode (zmC mi) pc = .ok (I, len) ∧ okI mi pc I len x y z c = true := by
  have hl : pc < zln mi := by
    unfold zfetch at h
    split at h
    · assumption
    · cases h
  have h1 := List.all_eq_true.mp (okM_all mi hm) pc (List.mem_range.mpr hl)
  unfold okE at h1
  rw [h] at h1
  simp only [Bool.and_eq_true, decide_eq_true_eq] at h1
  exact h1
section GOX
variable {p : Program} {l : Launch} {e : Env} {R : Room} {s : State} {m : MethodId} {args : Array Value} {below : List Frame} {meth : Method} {c : Code} {Qf : State → Prop} {D : va_G} {cA : Nat → ClassId} {A : Nat → Prop} {sp : Nat × Nat × Nat} {Ls : Nat} {xs : Nat → Int32} {adV : Nat → Nat} {b : Bool} {c0 s0 a0 : Nat} {ρ0 : Nat → Nat} {mi pc : Nat} {al st : List AV} {h : HP}
set_option maxHeartbeats 4000000 in
theorem go_step {pc' : Nat} {al' st' : List AV} {h' : HP} {aE : Nat} (C : Cx p R s m meth c D cA A sp Ls xs adV mi) (hsx : sx b mi pc al st h = some (.inl (pc', al', st', h'))) (hE : zA b h' ≤ aE) (hc1 : c0 + (aE - a0) ≤ R.cells) (hc2 : s0 + (zsS aE - zsS a0) ≤ R.slots)
    (K : Go p l e R s m args below meth c Qf D cA A sp Ls xs b c0 s0 a0 ρ0 mi pc' al' st' h') : Go p l e R s m args below meth c Qf D cA A sp Ls xs b c0 s0 a0 ρ0 mi pc al st h := by
  have hm := C.2.2.2.2.2.2.1
  have hle := zA_le (b := b) (sx_le hsx)
  have mono : ∀ a, a ≤ aE → c0 + (a - a0) ≤ R.cells ∧ s0 + (zsS a - zsS a0) ≤ R.slots := by
    intro a ha
    have := zsS_mono a (aE - a)
    rw [show a + (aE - a) = aE by omega] at this
    omega
  have hcap := mono (zA b h) (Nat.le_trans hle hE)
  have hnew : b = false → h' = hs h 1002 0 ((zal h + 1 : Nat) : Int) → c0 + (zal h + 1 - a0) ≤ R.cells ∧ s0 + (zsS (zal h + 1) - zsS a0) ≤ R.slots := by
    intro hb e1
    refine mono (zal h + 1) ?_
    subst e1
    subst hb
    have e2 : zA false (hs h 1002 0 ((zal h + 1 : Nat) : Int)) = zal h + 1 := by
      show ((hs h 1002 0 ((zal h + 1 : Nat) : Int)) 1002 0).toNat = _
      simp [hs]
    omega
  have hname : zmI mi = true → (zmY mi).name = "<init>" := by
    intro hi
    have := okZ_all mi hm
    unfold okZ at this
    simp only [Bool.and_eq_true, decide_eq_true_eq] at this
    exact this.1.1.2.mp hi
  unfold sx at hsx
  cases hf : zfetch mi pc with
  | none => rw [hf] at hsx; cases hsx
  | some E =>
  obtain ⟨I, len, x, y, z, cc⟩ := E
  rw [hf] at hsx
  simp only at hsx
  obtain ⟨hdec, hok⟩ := entry_ok hm hf
  cases I
  case iconst n =>
    simp only [okI, beq_iff_eq] at hok
    subst hok
    simp only [sxi, ipush] at hsx
    split at hsx
    · rename_i h32
      rw [nxt_inj] at hsx
      obtain ⟨rfl, rfl, rfl, rfl⟩ := hsx
      exact go_push C h32 (fun H locs ls cells slots rest k => lv_iconst C.1 C.2.1 hdec rfl k) K
    · cases hsx
  case bipush n =>
    simp only [okI, Bool.and_eq_true, beq_iff_eq, decide_eq_true_eq] at hok
    obtain ⟨rfl, r1, r2⟩ := hok
    simp only [sxi, ipush] at hsx
    split at hsx
    · rename_i h32
      rw [nxt_inj] at hsx
      obtain ⟨rfl, rfl, rfl, rfl⟩ := hsx
      exact go_push C h32 (fun H locs ls cells slots rest k => lv_bipush C.1 C.2.1 hdec (b8_of r1 r2) k) K
    · cases hsx
  case sipush n =>
    simp only [okI, Bool.and_eq_true, beq_iff_eq, decide_eq_true_eq] at hok
    obtain ⟨rfl, r1, r2⟩ := hok
    simp only [sxi, ipush] at hsx
    split at hsx
    · rename_i h32
      rw [nxt_inj] at hsx
      obtain ⟨rfl, rfl, rfl, rfl⟩ := hsx
      exact go_push C h32 (fun H locs ls cells slots rest k => lv_sipush C.1 C.2.1 hdec (s16_of r1 r2) k) K
    · cases hsx
  case lconst n =>
    simp only [okI, beq_iff_eq] at hok
    subst hok
    simp only [sxi] at hsx
    rw [nxt_inj] at hsx
    obtain ⟨rfl, rfl, rfl, rfl⟩ := hsx
    have hn : in64 ((n : Nat) : Int) := by unfold in64; omega
    exact go_nh rfl (fun ρ H locs ls cells slots hH hS hL hst k2 => lv_lconst C.1 C.2.1 hdec (v := Int64.ofInt ((n : Nat) : Int)) rfl (k2 ls hL (okv_p (show okv _ (vj ((n : Nat) : Int)) from hn) hst))) K
  case ldc idx =>
    simp only [okI, Bool.and_eq_true, beq_iff_eq] at hok
    obtain ⟨rfl, hok⟩ := hok
    simp only [sxi, ildc] at hsx
    split at hsx
    · rename_i hx0
      rw [if_pos hx0] at hok
      simp only [ipush] at hsx
      split at hsx
      · rename_i h32
        rw [nxt_inj] at hsx
        obtain ⟨rfl, rfl, rfl, rfl⟩ := hsx
        exact go_push C h32 (fun H locs ls cells slots rest k => lv_ldc C.1 C.2.1 C.2.2.1 (C.2.2.2.2.1.word (okw_mem hok) rfl _) hdec k) K
      · cases hsx
    · rename_i hx0
      rw [if_neg hx0] at hok
      split at hsx
      · rename_i hx1
        rw [nxt_inj] at hsx
        obtain ⟨rfl, rfl, rfl, rfl⟩ := hsx
        refine go_ldcS C hdec ?_ K
        rcases hx1 with hx1 | hx1
        · rw [if_pos hx1] at hok
          simp only [decide_eq_true_eq] at hok
          exact Or.inl ⟨hx1, hok⟩
        · rw [if_neg (by omega)] at hok
          simp only [decide_eq_true_eq] at hok
          exact Or.inr ⟨hx1, hok⟩
      · cases hsx
  case ldc_w idx =>
    simp only [okI, Bool.and_eq_true, beq_iff_eq] at hok
    obtain ⟨rfl, hok⟩ := hok
    simp only [sxi, ipush] at hsx
    split at hsx
    · rename_i h32
      rw [nxt_inj] at hsx
      obtain ⟨rfl, rfl, rfl, rfl⟩ := hsx
      exact go_push C h32 (fun H locs ls cells slots rest k => lv_ldcw C.1 C.2.1 C.2.2.1 (C.2.2.2.2.1.word (okw_mem hok) rfl _) hdec k) K
    · cases hsx
  case ldc2_w idx =>
    simp only [okI, Bool.and_eq_true, beq_iff_eq] at hok
    obtain ⟨rfl, hok⟩ := hok
    simp only [sxi] at hsx
    split at hsx
    · rename_i h64
      rw [nxt_inj] at hsx
      obtain ⟨rfl, rfl, rfl, rfl⟩ := hsx
      exact go_nh rfl (fun ρ H locs ls cells slots hH hS hL hst k2 => lv_ldc2 C.1 C.2.1 C.2.2.1 (C.2.2.2.2.1.word (okw_mem hok) rfl _) hdec (k2 ls hL (okv_p (show okv _ (vj cc) from h64) hst))) K
    · cases hsx
  case iload k =>
    simp only [okI, beq_iff_eq] at hok
    subst hok
    simp only [sxi, ildi] at hsx
    split at hsx
    · rename_i v hv
      rw [nxt_inj] at hsx
      obtain ⟨rfl, rfl, rfl, rfl⟩ := hsx
      exact go_iload C hdec hv K
    · cases hsx
  case iload_n k =>
    simp only [okI, beq_iff_eq] at hok
    subst hok
    simp only [sxi, ildi] at hsx
    split at hsx
    · rename_i v hv
      rw [nxt_inj] at hsx
      obtain ⟨rfl, rfl, rfl, rfl⟩ := hsx
      exact go_iload_n C hdec hv K
    · cases hsx
  case lload k =>
    simp only [okI, beq_iff_eq] at hok
    subst hok
    simp only [sxi, ildj] at hsx
    split at hsx
    · rename_i v hv
      rw [nxt_inj] at hsx
      obtain ⟨rfl, rfl, rfl, rfl⟩ := hsx
      exact go_lload C hdec hv K
    · cases hsx
  case lload_n k =>
    simp only [okI, beq_iff_eq] at hok
    subst hok
    simp only [sxi, ildj] at hsx
    split at hsx
    · rename_i v hv
      rw [nxt_inj] at hsx
      obtain ⟨rfl, rfl, rfl, rfl⟩ := hsx
      exact go_lload_n C hdec hv K
    · cases hsx
  case aload k =>
    simp only [okI, beq_iff_eq] at hok
    subst hok
    simp only [sxi, ilda] at hsx
    split at hsx
    · rename_i v hv
      split at hsx
      · cases hsx
      · rename_i hn
        rw [nxt_inj] at hsx
        obtain ⟨rfl, rfl, rfl, rfl⟩ := hsx
        exact go_aload C hdec hv hn K
    · cases hsx
  case aload_n k =>
    simp only [okI, beq_iff_eq] at hok
    subst hok
    simp only [sxi, ilda] at hsx
    split at hsx
    · rename_i v hv
      split at hsx
      · cases hsx
      · rename_i hn
        rw [nxt_inj] at hsx
        obtain ⟨rfl, rfl, rfl, rfl⟩ := hsx
        exact go_aload_n C hdec hv hn K
    · cases hsx
  case istore k =>
    simp only [okI, beq_iff_eq] at hok
    subst hok
    simp only [sxi, isti] at hsx
    split at hsx
    · split at hsx
      · rename_i hk
        rw [nxt_inj] at hsx
        obtain ⟨rfl, rfl, rfl, rfl⟩ := hsx
        exact go_istore C hdec hk K
      · cases hsx
    · cases hsx
  case istore_n k =>
    simp only [okI, beq_iff_eq] at hok
    subst hok
    simp only [sxi, isti] at hsx
    split at hsx
    · split at hsx
      · rename_i hk
        rw [nxt_inj] at hsx
        obtain ⟨rfl, rfl, rfl, rfl⟩ := hsx
        exact go_istore_n C hdec hk K
      · cases hsx
    · cases hsx
  case lstore k =>
    simp only [okI, beq_iff_eq] at hok
    subst hok
    simp only [sxi, istj] at hsx
    split at hsx
    · split at hsx
      · rename_i hk
        rw [nxt_inj] at hsx
        obtain ⟨rfl, rfl, rfl, rfl⟩ := hsx
        exact go_lstore C hdec hk K
      · cases hsx
    · cases hsx
  case lstore_n k =>
    simp only [okI, beq_iff_eq] at hok
    subst hok
    simp only [sxi, istj] at hsx
    split at hsx
    · split at hsx
      · rename_i hk
        rw [nxt_inj] at hsx
        obtain ⟨rfl, rfl, rfl, rfl⟩ := hsx
        exact go_lstore_n C hdec hk K
      · cases hsx
    · cases hsx
  case astore_n k =>
    simp only [okI, beq_iff_eq] at hok
    subst hok
    simp only [sxi, ista] at hsx
    split at hsx
    · split at hsx
      · rename_i hk
        rw [nxt_inj] at hsx
        obtain ⟨rfl, rfl, rfl, rfl⟩ := hsx
        exact go_astore_n C hdec hk K
      · cases hsx
    · cases hsx
  case iinc k n =>
    simp only [okI, Bool.and_eq_true, beq_iff_eq, decide_eq_true_eq] at hok
    obtain ⟨rfl, -⟩ := hok
    simp only [sxi, iinc0] at hsx
    split at hsx
    · rename_i v hv
      rw [nxt_inj] at hsx
      obtain ⟨rfl, rfl, rfl, rfl⟩ := hsx
      exact go_iinc C hdec hv K
    · cases hsx
  case iadd =>
    simp only [okI, beq_iff_eq] at hok
    subst hok
    simp only [sxi, ibin] at hsx
    split at hsx
    · rw [nxt_inj] at hsx
      obtain ⟨rfl, rfl, rfl, rfl⟩ := hsx
      exact go_i2 (fun _ _ => in32_w32 _) (fun hx hy H locs ls cells slots rest k => lv_iadd C.1 C.2.1 hdec (by rw [i32_add]; exact k)) K
    · cases hsx
  case isub =>
    simp only [okI, beq_iff_eq] at hok
    subst hok
    simp only [sxi, ibin] at hsx
    split at hsx
    · rw [nxt_inj] at hsx
      obtain ⟨rfl, rfl, rfl, rfl⟩ := hsx
      exact go_i2 (fun _ _ => in32_w32 _) (fun hx hy H locs ls cells slots rest k => lv_isub C.1 C.2.1 hdec (by rw [i32_sub]; exact k)) K
    · cases hsx
  case imul =>
    simp only [okI, beq_iff_eq] at hok
    subst hok
    simp only [sxi, ibin] at hsx
    split at hsx
    · rw [nxt_inj] at hsx
      obtain ⟨rfl, rfl, rfl, rfl⟩ := hsx
      exact go_i2 (fun _ _ => in32_w32 _) (fun hx hy H locs ls cells slots rest k => lv_imul C.1 C.2.1 hdec (by rw [i32_mul]; exact k)) K
    · cases hsx
  case idiv =>
    simp only [okI, beq_iff_eq] at hok
    subst hok
    simp only [sxi, idiv0] at hsx
    split at hsx
    · split at hsx
      · cases hsx
      · rename_i hy0
        rw [nxt_inj] at hsx
        obtain ⟨rfl, rfl, rfl, rfl⟩ := hsx
        exact go_i2 (fun _ _ => in32_w32 _) (fun hx hy H locs ls cells slots rest k => lv_idiv C.1 C.2.1 hdec (fun q => hy0 ((i32_eq hy in32_0).mp q)) (by rw [i32_div hx hy]; exact k)) K
    · cases hsx
  case irem =>
    simp only [okI, beq_iff_eq] at hok
    subst hok
    simp only [sxi, idiv0] at hsx
    split at hsx
    · split at hsx
      · cases hsx
      · rename_i hy0
        rw [nxt_inj] at hsx
        obtain ⟨rfl, rfl, rfl, rfl⟩ := hsx
        exact go_i2 (fun hx _ => in32_tmod hx hy0) (fun hx hy H locs ls cells slots rest k => lv_irem C.1 C.2.1 hdec (fun q => hy0 ((i32_eq hy in32_0).mp q)) (by rw [i32_rem hx hy]; exact k)) K
    · cases hsx
  case iand =>
    simp only [okI, beq_iff_eq] at hok
    subst hok
    simp only [sxi, ibin] at hsx
    split at hsx
    · rw [nxt_inj] at hsx
      obtain ⟨rfl, rfl, rfl, rfl⟩ := hsx
      exact go_i2 (fun _ _ => in32_toInt _) (fun hx hy H locs ls cells slots rest k => lv_iand C.1 C.2.1 hdec (by simp only [o_and, Int32.ofInt_toInt] at k; exact k)) K
    · cases hsx
  case ior =>
    simp only [okI, beq_iff_eq] at hok
    subst hok
    simp only [sxi, ibin] at hsx
    split at hsx
    · rw [nxt_inj] at hsx
      obtain ⟨rfl, rfl, rfl, rfl⟩ := hsx
      exact go_i2 (fun _ _ => in32_toInt _) (fun hx hy H locs ls cells slots rest k => lv_ior C.1 C.2.1 hdec (by simp only [o_or, Int32.ofInt_toInt] at k; exact k)) K
    · cases hsx
  case ishl =>
    simp only [okI, beq_iff_eq] at hok
    subst hok
    simp only [sxi, ibin] at hsx
    split at hsx
    · rw [nxt_inj] at hsx
      obtain ⟨rfl, rfl, rfl, rfl⟩ := hsx
      exact go_i2 (fun _ _ => in32_toInt _) (fun hx hy H locs ls cells slots rest k => lv_ishl C.1 C.2.1 hdec (by simp only [o_shl, Int32.ofInt_toInt] at k; exact k)) K
    · cases hsx
  case ishr =>
    simp only [okI, beq_iff_eq] at hok
    subst hok
    simp only [sxi, ibin] at hsx
    split at hsx
    · rw [nxt_inj] at hsx
      obtain ⟨rfl, rfl, rfl, rfl⟩ := hsx
      exact go_i2 (fun _ _ => in32_toInt _) (fun hx hy H locs ls cells slots rest k => lv_ishr C.1 C.2.1 hdec (by simp only [o_shr, Int32.ofInt_toInt] at k; exact k)) K
    · cases hsx
  case ineg =>
    simp only [okI, beq_iff_eq] at hok
    subst hok
    simp only [sxi, icv] at hsx
    split at hsx
    · rw [nxt_inj] at hsx
      obtain ⟨rfl, rfl, rfl, rfl⟩ := hsx
      exact go_i1 (fun _ => in32_w32 _) (fun hx H locs ls cells slots rest k => lv_ineg C.1 C.2.1 hdec (by rw [i32_neg]; exact k)) K
    · cases hsx
  case i2b =>
    simp only [okI, beq_iff_eq] at hok
    subst hok
    simp only [sxi, icv] at hsx
    split at hsx
    · rw [nxt_inj] at hsx
      obtain ⟨rfl, rfl, rfl, rfl⟩ := hsx
      exact go_i1 (fun _ => in32_w8 _) (fun hx H locs ls cells slots rest k => lv_i2b C.1 C.2.1 hdec (i32_b hx) k) K
    · cases hsx
  case i2s =>
    simp only [okI, beq_iff_eq] at hok
    subst hok
    simp only [sxi, icv] at hsx
    split at hsx
    · rw [nxt_inj] at hsx
      obtain ⟨rfl, rfl, rfl, rfl⟩ := hsx
      exact go_i1 (fun _ => in32_w16 _) (fun hx H locs ls cells slots rest k => lv_i2s C.1 C.2.1 hdec (i32_s hx) k) K
    · cases hsx
  case i2l =>
    simp only [okI, beq_iff_eq] at hok
    subst hok
    simp only [sxi, ii2l] at hsx
    split at hsx
    · rename_i v r
      rw [nxt_inj] at hsx
      obtain ⟨rfl, rfl, rfl, rfl⟩ := hsx
      exact go_nh rfl (fun ρ H locs ls cells slots hH hS hL hst k2 => lv_i2l C.1 C.2.1 hdec (i32_l (okv_c hst).1) (k2 ls hL (okv_p (show okv _ (vj v) from in64_of32 (okv_c hst).1) (okv_c hst).2))) K
    · cases hsx
  case l2i =>
    simp only [okI, beq_iff_eq] at hok
    subst hok
    simp only [sxi, il2i] at hsx
    split at hsx
    · rename_i v r
      rw [nxt_inj] at hsx
      obtain ⟨rfl, rfl, rfl, rfl⟩ := hsx
      exact go_nh rfl (fun ρ H locs ls cells slots hH hS hL hst k2 => lv_l2i C.1 C.2.1 hdec (i64_i (okv_c hst).1) (k2 ls hL (okv_p (show okv _ (vi (w32 v)) from in32_w32 _) (okv_c hst).2))) K
    · cases hsx
  case ladd =>
    simp only [okI, beq_iff_eq] at hok
    subst hok
    simp only [sxi, jbin] at hsx
    split at hsx
    · rw [nxt_inj] at hsx
      obtain ⟨rfl, rfl, rfl, rfl⟩ := hsx
      exact go_j2 (fun _ _ => in64_w64 _) (fun hx hy H locs ls cells slots rest k => lv_ladd C.1 C.2.1 hdec (by rw [i64_add]; exact k)) K
    · cases hsx
  case lsub =>
    simp only [okI, beq_iff_eq] at hok
    subst hok
    simp only [sxi, jbin] at hsx
    split at hsx
    · rw [nxt_inj] at hsx
      obtain ⟨rfl, rfl, rfl, rfl⟩ := hsx
      exact go_j2 (fun _ _ => in64_w64 _) (fun hx hy H locs ls cells slots rest k => lv_lsub C.1 C.2.1 hdec (by rw [i64_sub]; exact k)) K
    · cases hsx
  case lmul =>
    simp only [okI, beq_iff_eq] at hok
    subst hok
    simp only [sxi, jbin] at hsx
    split at hsx
    · rw [nxt_inj] at hsx
      obtain ⟨rfl, rfl, rfl, rfl⟩ := hsx
      exact go_j2 (fun _ _ => in64_w64 _) (fun hx hy H locs ls cells slots rest k => lv_lmul C.1 C.2.1 hdec (by rw [i64_mul]; exact k)) K
    · cases hsx
  case ldiv =>
    simp only [okI, beq_iff_eq] at hok
    subst hok
    simp only [sxi, jdiv0] at hsx
    split at hsx
    · split at hsx
      · cases hsx
      · rename_i hy0
        rw [nxt_inj] at hsx
        obtain ⟨rfl, rfl, rfl, rfl⟩ := hsx
        exact go_j2 (fun _ _ => in64_w64 _) (fun hx hy H locs ls cells slots rest k => lv_ldiv C.1 C.2.1 hdec (fun q => hy0 ((i64_eq hy (by unfold in64; omega)).mp q)) (by rw [i64_div hx hy]; exact k)) K
    · cases hsx
  case lrem =>
    simp only [okI, beq_iff_eq] at hok
    subst hok
    simp only [sxi, jdiv0] at hsx
    split at hsx
    · split at hsx
      · cases hsx
      · rename_i hy0
        rw [nxt_inj] at hsx
        obtain ⟨rfl, rfl, rfl, rfl⟩ := hsx
        exact go_j2 (fun hx _ => in64_tmod hx hy0) (fun hx hy H locs ls cells slots rest k => lv_lrem C.1 C.2.1 hdec (fun q => hy0 ((i64_eq hy (by unfold in64; omega)).mp q)) (by rw [i64_rem hx hy]; exact k)) K
    · cases hsx
  case land =>
    simp only [okI, beq_iff_eq] at hok
    subst hok
    simp only [sxi, jbin] at hsx
    split at hsx
    · rw [nxt_inj] at hsx
      obtain ⟨rfl, rfl, rfl, rfl⟩ := hsx
      exact go_j2 (fun _ _ => in64_toInt _) (fun hx hy H locs ls cells slots rest k => lv_land C.1 C.2.1 hdec (by simp only [o_land, Int64.ofInt_toInt] at k; exact k)) K
    · cases hsx
  case lor =>
    simp only [okI, beq_iff_eq] at hok
    subst hok
    simp only [sxi, jbin] at hsx
    split at hsx
    · rw [nxt_inj] at hsx
      obtain ⟨rfl, rfl, rfl, rfl⟩ := hsx
      exact go_j2 (fun _ _ => in64_toInt _) (fun hx hy H locs ls cells slots rest k => lv_lor C.1 C.2.1 hdec (by simp only [o_lor, Int64.ofInt_toInt] at k; exact k)) K
    · cases hsx
  case lshl =>
    simp only [okI, beq_iff_eq] at hok
    subst hok
    simp only [sxi, jsh] at hsx
    split at hsx
    · rw [nxt_inj] at hsx
      obtain ⟨rfl, rfl, rfl, rfl⟩ := hsx
      exact go_jsh (in64_toInt _) (fun H locs ls cells slots rest k => lv_lshl C.1 C.2.1 hdec rfl (by simp only [o_lshl, Int64.ofInt_toInt] at k; exact k)) K
    · cases hsx
  case lshr =>
    simp only [okI, beq_iff_eq] at hok
    subst hok
    simp only [sxi, jsh] at hsx
    split at hsx
    · rw [nxt_inj] at hsx
      obtain ⟨rfl, rfl, rfl, rfl⟩ := hsx
      exact go_jsh (in64_toInt _) (fun H locs ls cells slots rest k => lv_lshr C.1 C.2.1 hdec rfl (by simp only [o_lshr, Int64.ofInt_toInt] at k; exact k)) K
    · cases hsx
  case lushr =>
    simp only [okI, beq_iff_eq] at hok
    subst hok
    simp only [sxi, jsh] at hsx
    split at hsx
    · rw [nxt_inj] at hsx
      obtain ⟨rfl, rfl, rfl, rfl⟩ := hsx
      exact go_jsh (in64_toInt _) (fun H locs ls cells slots rest k => lv_lushr C.1 C.2.1 hdec rfl (by simp only [o_lushr, Int64.ofInt_toInt] at k; exact k)) K
    · cases hsx
  case lcmp =>
    simp only [okI, beq_iff_eq] at hok
    subst hok
    simp only [sxi, ilcmp] at hsx
    split at hsx
    · rename_i y' x' r
      rw [nxt_inj] at hsx
      obtain ⟨rfl, rfl, rfl, rfl⟩ := hsx
      refine go_nh rfl (fun ρ H locs ls cells slots hH hS hL hst k2 => W.lcmp C.1 C.2.1 hdec ?_) K
      rw [i64_cmp (okv_c (okv_c hst).2).1 (okv_c hst).1]
      exact k2 ls hL (okv_p (show okv _ (vi (o_lcmp x' y')) from in32_lcmp _ _) (okv_c (okv_c hst).2).2)
    · cases hsx
  case iaload =>
    simp only [okI, beq_iff_eq] at hok
    subst hok
    simp only [sxi, iald] at hsx
    split at hsx
    · split at hsx
      · rename_i hq
        rw [nxt_inj] at hsx
        obtain ⟨rfl, rfl, rfl, rfl⟩ := hsx
        exact go_iald C hdec hq.1 hq.2.1 hq.2.2 K
      · split at hsx
        · rename_i hq
          rw [nxt_inj] at hsx
          obtain ⟨rfl, rfl, rfl, rfl⟩ := hsx
          obtain ⟨rfl, q2, q3⟩ := hq
          exact go_sald C hdec q2 q3 K
        · cases hsx
    · cases hsx
  case baload =>
    simp only [okI, beq_iff_eq] at hok
    subst hok
    simp only [sxi, bald] at hsx
    split at hsx
    · split at hsx
      · rename_i hq
        rw [nxt_inj] at hsx
        obtain ⟨rfl, rfl, rfl, rfl⟩ := hsx
        exact go_bald C hdec hq.1 hq.2.1 hq.2.2 K
      · cases hsx
    · cases hsx
  case laload =>
    simp only [okI, beq_iff_eq] at hok
    subst hok
    simp only [sxi, jald] at hsx
    split at hsx
    · split at hsx
      · rename_i hq
        rw [nxt_inj] at hsx
        obtain ⟨rfl, rfl, rfl, rfl⟩ := hsx
        exact go_jald C hdec hq.1 hq.2.1 hq.2.2 K
      · cases hsx
    · cases hsx
  case aaload =>
    simp only [okI, beq_iff_eq] at hok
    subst hok
    simp only [sxi, aald] at hsx
    split at hsx
    · split at hsx
      · rename_i hq
        rw [nxt_inj] at hsx
        obtain ⟨rfl, rfl, rfl, rfl⟩ := hsx
        exact go_aald C hdec hq.1 hq.2.1 hq.2.2.1 hq.2.2.2 K
      · cases hsx
    · cases hsx
  case iastore =>
    simp only [okI, beq_iff_eq] at hok
    subst hok
    simp only [sxi, iast] at hsx
    split at hsx
    · split at hsx
      · rename_i hq
        rw [nxt_inj] at hsx
        obtain ⟨rfl, rfl, rfl, rfl⟩ := hsx
        exact go_iast C hdec hq.1 hq.2.1 hq.2.2 K
      · cases hsx
    · cases hsx
  case bastore =>
    simp only [okI, beq_iff_eq] at hok
    subst hok
    simp only [sxi, bast] at hsx
    split at hsx
    · split at hsx
      · rename_i hq
        rw [nxt_inj] at hsx
        obtain ⟨rfl, rfl, rfl, rfl⟩ := hsx
        exact go_bast C hdec hq.1 hq.2.1 hq.2.2.1 hq.2.2.2.1 hq.2.2.2.2 K
      · cases hsx
    · cases hsx
  case lastore =>
    simp only [okI, beq_iff_eq] at hok
    subst hok
    simp only [sxi, jast] at hsx
    split at hsx
    · split at hsx
      · rename_i hq
        rw [nxt_inj] at hsx
        obtain ⟨rfl, rfl, rfl, rfl⟩ := hsx
        exact go_jast C hdec hq.1 hq.2.1 hq.2.2 K
      · cases hsx
    · cases hsx
  case aastore =>
    simp only [okI, beq_iff_eq] at hok
    subst hok
    simp only [sxi, aast] at hsx
    split at hsx
    · split at hsx
      · rename_i hq
        rw [nxt_inj] at hsx
        obtain ⟨rfl, rfl, rfl, rfl⟩ := hsx
        obtain ⟨hb, q1, q2, q3, q4⟩ := hq
        subst hb
        exact go_aast C hdec q1 q2 q3 q4 K
      · cases hsx
    · cases hsx
  case arraylength =>
    simp only [okI, beq_iff_eq] at hok
    subst hok
    simp only [sxi, alen] at hsx
    split at hsx
    · split at hsx
      · rename_i hq
        rw [nxt_inj] at hsx
        obtain ⟨rfl, rfl, rfl, rfl⟩ := hsx
        exact go_alen C hdec hq K
      · split at hsx
        · rename_i hq
          rw [nxt_inj] at hsx
          obtain ⟨rfl, rfl, rfl, rfl⟩ := hsx
          subst hq
          exact go_slen C hdec K
        · cases hsx
    · cases hsx
  case getfield idx =>
    simp only [okI, Bool.and_eq_true, beq_iff_eq, decide_eq_true_eq] at hok
    obtain ⟨⟨rfl, hx, hy⟩, hw⟩ := hok
    simp only [sxi, iget] at hsx
    split at hsx
    · split at hsx
      · rename_i hck
        split at hsx
        · rename_i hq
          rw [nxt_inj] at hsx
          obtain ⟨rfl, rfl, rfl, rfl⟩ := hsx
          exact go_get C hdec hx hy hw hck (Or.inl ⟨hq, rfl⟩) K
        · split at hsx
          · rename_i hq
            rw [nxt_inj] at hsx
            obtain ⟨rfl, rfl, rfl, rfl⟩ := hsx
            exact go_get C hdec hx hy hw hck (Or.inr (Or.inl ⟨hq, rfl⟩)) K
          · split at hsx
            · rename_i hq
              rw [nxt_inj] at hsx
              obtain ⟨rfl, rfl, rfl, rfl⟩ := hsx
              exact go_get C hdec hx hy hw hck (Or.inr (Or.inr ⟨hq.1, hq.2, rfl⟩)) K
            · cases hsx
      · cases hsx
    · cases hsx
  case putfield idx =>
    simp only [okI, Bool.and_eq_true, beq_iff_eq, decide_eq_true_eq] at hok
    obtain ⟨⟨rfl, hx, hy⟩, hw⟩ := hok
    simp only [sxi, iput] at hsx
    split at hsx
    · split at hsx
      · rename_i hq
        rw [nxt_inj] at hsx
        obtain ⟨rfl, rfl, rfl, rfl⟩ := hsx
        rcases hq.2 with q | q
        · exact go_put C hdec hx hy hw hq.1 (Or.inl ⟨q, rfl⟩) hname K
        · exact go_put C hdec hx hy hw hq.1 (Or.inr (Or.inl ⟨q.1, rfl, q.2⟩)) hname K
      · cases hsx
    · split at hsx
      · rename_i hq
        rw [nxt_inj] at hsx
        obtain ⟨rfl, rfl, rfl, rfl⟩ := hsx
        exact go_put C hdec hx hy hw hq.1 (Or.inr (Or.inr (Or.inl ⟨hq.2, rfl⟩))) hname K
      · cases hsx
    · split at hsx
      · rename_i hq
        rw [nxt_inj] at hsx
        obtain ⟨rfl, rfl, rfl, rfl⟩ := hsx
        obtain ⟨q1, q2, q3, q4, q5, q6⟩ := hq
        exact go_put C hdec hx hy hw q1 (Or.inr (Or.inr (Or.inr ⟨q2, q3, q4, q5, by rw [q6], rfl⟩))) hname K
      · cases hsx
    · cases hsx
  case invokevirtual idx =>
    simp only [okI, Bool.and_eq_true, beq_iff_eq] at hok
    obtain ⟨rfl, hok⟩ := hok
    simp only [sxi, iinv] at hsx
    split at hsx
    · simp only [icall] at hsx
      split at hsx
      · split at hsx
        · simp at hsx
        · split at hsx
          · split at hsx <;> simp at hsx
          · cases hsx
      · cases hsx
    · rename_i hx0
      rw [if_neg hx0] at hok
      split at hsx
      · rename_i hx1
        rw [if_neg (by omega)] at hok
        simp only [Bool.and_eq_true, decide_eq_true_eq] at hok
        omega
      · split at hsx
        · rename_i hx1 hx2
          rw [if_neg (by omega)] at hok
          simp only [Bool.and_eq_true, decide_eq_true_eq] at hok
          omega
        · split at hsx
          · rename_i hx1 hx2 hx3
            rw [if_pos hx3] at hok
            simp only [Bool.and_eq_true, decide_eq_true_eq] at hok
            split at hsx
            · rename_i i q r
              split at hsx
              · rename_i hq
                rw [nxt_inj] at hsx
                obtain ⟨rfl, rfl, rfl, rfl⟩ := hsx
                obtain ⟨g1, g2, g3⟩ := hq
                obtain ⟨j, rfl⟩ : ∃ j : Nat, i = (j : Int) := ⟨i.toNat, by omega⟩
                have hq2 : q = 2000 ∨ q = 2001 := by
                  unfold zstr at g2
                  split at g2
                  · left; assumption
                  · split at g2
                    · right; assumption
                    · simp at g2; omega
                rcases hq2 with rfl | rfl
                · exact go_charAt (i := 0) C hdec hok.1 hok.2 (by omega) (by simpa using g2) g3 hcap (by simpa using K)
                · exact go_charAt (i := 1) C hdec hok.1 hok.2 (by omega) (by simpa using g2) g3 hcap (by simpa using K)
              · cases hsx
            · cases hsx
          · rename_i hx1 hx2 hx3
            rw [if_neg hx3] at hok
            simp only [Bool.and_eq_true, decide_eq_true_eq] at hok
            split at hsx
            · split at hsx
              · split at hsx
                · rename_i hq
                  rw [nxt_inj] at hsx
                  obtain ⟨rfl, rfl, rfl, rfl⟩ := hsx
                  obtain ⟨g1, g3⟩ := hq
                  rcases g1 with rfl | rfl
                  · exact go_length (i := 0) C hdec hok.1.2 hok.2 (by omega) g3 hcap K
                  · exact go_length (i := 1) C hdec hok.1.2 hok.2 (by omega) g3 hcap K
                · cases hsx
              · cases hsx
            · cases hsx
  case invokestatic idx =>
    simp only [okI, Bool.and_eq_true, beq_iff_eq] at hok
    obtain ⟨rfl, hok⟩ := hok
    simp only [sxi, iinv] at hsx
    split at hsx
    · simp only [icall] at hsx
      split at hsx
      · split at hsx
        · simp at hsx
        · split at hsx
          · split at hsx <;> simp at hsx
          · cases hsx
      · cases hsx
    · rename_i hx0
      rw [if_neg hx0] at hok
      simp only [Bool.and_eq_true, decide_eq_true_eq] at hok
      rw [if_pos hok.1.1] at hsx
      split at hsx
      · split at hsx
        · rename_i hq
          rw [nxt_inj] at hsx
          obtain ⟨rfl, rfl, rfl, rfl⟩ := hsx
          obtain ⟨g1, g2, g3, g4, g5, g6, g7, g8⟩ := hq
          exact go_copy C hdec hok.1.2 hok.2 g1 g2 g3 g4 g5 g6 g7 g8 K
        · cases hsx
      · cases hsx
  case invokespecial idx =>
    simp only [okI, Bool.and_eq_true, beq_iff_eq] at hok
    obtain ⟨rfl, hok⟩ := hok
    simp only [sxi, iinv] at hsx
    split at hsx
    · simp only [icall] at hsx
      split at hsx
      · split at hsx
        · simp at hsx
        · split at hsx
          · split at hsx <;> simp at hsx
          · cases hsx
      · cases hsx
    · rename_i hx0
      rw [if_neg hx0] at hok
      simp only [Bool.and_eq_true, decide_eq_true_eq] at hok
      rw [if_neg (by omega), if_pos hok.1.1] at hsx
      split at hsx
      · split at hsx
        · rename_i hq
          rw [nxt_inj] at hsx
          obtain ⟨rfl, rfl, rfl, rfl⟩ := hsx
          exact go_objInit C hdec hok.1.2 hok.2 hq K
        · cases hsx
      · cases hsx
  case new idx =>
    simp only [okI, Bool.and_eq_true, beq_iff_eq, decide_eq_true_eq] at hok
    obtain ⟨⟨rfl, hx⟩, hw⟩ := hok
    simp only [sxi, inew] at hsx
    split at hsx
    · rename_i hq
      rw [nxt_inj] at hsx
      obtain ⟨rfl, rfl, rfl, rfl⟩ := hsx
      obtain ⟨hb, g1, g2, g3⟩ := hq
      have hn := hnew hb rfl
      subst hb
      exact go_new C hdec hx hw g2 g3 hn K
    · cases hsx
  case newarray ty =>
    simp only [okI, beq_iff_eq] at hok
    subst hok
    cases ty
    case int =>
      simp only [sxi, inewa] at hsx
      split at hsx
      · split at hsx
        · rename_i hq
          rw [nxt_inj] at hsx
          obtain ⟨rfl, rfl, rfl, rfl⟩ := hsx
          obtain ⟨hb, g1, g2, g3⟩ := hq
          have hn := hnew hb rfl
          subst hb
          exact go_newai C hdec g1 g2 g3 hn K
        · cases hsx
      · cases hsx
    case long =>
      simp only [sxi, inewa] at hsx
      split at hsx
      · split at hsx
        · rename_i hq
          rw [nxt_inj] at hsx
          obtain ⟨rfl, rfl, rfl, rfl⟩ := hsx
          obtain ⟨hb, g1, g2, g3⟩ := hq
          have hn := hnew hb rfl
          subst hb
          exact go_newaj C hdec g1 g2 g3 hn K
        · cases hsx
      · cases hsx
    case byte =>
      simp only [sxi, inewa] at hsx
      split at hsx
      · split at hsx
        · rename_i hq
          rw [nxt_inj] at hsx
          obtain ⟨rfl, rfl, rfl, rfl⟩ := hsx
          obtain ⟨hb, g1, g2, g3⟩ := hq
          have hn := hnew hb rfl
          subst hb
          exact go_newab C hdec g1 g2 g3 hn K
        · cases hsx
      · cases hsx
    all_goals simp [sxi] at hsx
  case anewarray idx =>
    simp only [okI, Bool.and_eq_true, beq_iff_eq, decide_eq_true_eq] at hok
    obtain ⟨⟨rfl, hx⟩, hw⟩ := hok
    simp only [sxi] at hsx
    split at hsx
    · rename_i hx3
      simp only [inewa] at hsx
      split at hsx
      · split at hsx
        · rename_i hq
          rw [nxt_inj] at hsx
          obtain ⟨rfl, rfl, rfl, rfl⟩ := hsx
          obtain ⟨hb, g1, g2, g3⟩ := hq
          have hn := hnew hb rfl
          subst hb
          exact go_newq C hdec (Or.inl ⟨hx3, rfl⟩) hw g1 g2 g3 hn K
        · cases hsx
      · cases hsx
    · split at hsx
      · rename_i hx3 hx7
        simp only [inewa] at hsx
        split at hsx
        · split at hsx
          · rename_i hq
            rw [nxt_inj] at hsx
            obtain ⟨rfl, rfl, rfl, rfl⟩ := hsx
            obtain ⟨hb, g1, g2, g3⟩ := hq
            have hn := hnew hb rfl
            subst hb
            exact go_newq C hdec (Or.inr ⟨hx7, rfl⟩) hw g1 g2 g3 hn K
          · cases hsx
        · cases hsx
      · cases hsx
  case goto off =>
    simp only [okI, Bool.and_eq_true, beq_iff_eq, decide_eq_true_eq] at hok
    obtain ⟨rfl, ho⟩ := hok
    simp only [sxi] at hsx
    rw [nxt_inj] at hsx
    obtain ⟨rfl, rfl, rfl, rfl⟩ := hsx
    exact go_jmp (fun H locs ls cells slots rest k => lv_goto C.1 C.2.1 hdec (jmp_eq ho) k) K
  case ifCond cd off =>
    simp only [okI, Bool.and_eq_true, beq_iff_eq, decide_eq_true_eq] at hok
    obtain ⟨rfl, ho⟩ := hok
    simp only [sxi, ibr] at hsx
    split at hsx
    · rw [nxt_inj] at hsx
      obtain ⟨rfl, rfl, rfl, rfl⟩ := hsx
      exact go_ifCond C hdec ho K
    · cases hsx
  case if_icmp cd off =>
    simp only [okI, Bool.and_eq_true, beq_iff_eq, decide_eq_true_eq] at hok
    obtain ⟨rfl, ho⟩ := hok
    simp only [sxi, ibr2] at hsx
    split at hsx
    · rw [nxt_inj] at hsx
      obtain ⟨rfl, rfl, rfl, rfl⟩ := hsx
      exact go_icmp C hdec ho K
    · cases hsx
  case tableswitch d lo hi offs =>
    simp only [okI, Bool.and_eq_true, decide_eq_true_eq, List.all_eq_true] at hok
    obtain ⟨ho, hos⟩ := hok
    simp only [sxi, isw] at hsx
    split at hsx
    · split at hsx
      · rename_i hq
        rw [nxt_inj] at hsx
        obtain ⟨rfl, rfl, rfl, rfl⟩ := hsx
        exact go_br (fun hx H locs ls cells slots rest k => lv_tableOut C.1 C.2.1 hdec (by rw [i32_t hx]; exact hq) (jmp_eq ho) k) K
      · rename_i v r hq
        split at hsx
        · rename_i off hoff
          rw [nxt_inj] at hsx
          obtain ⟨rfl, rfl, rfl, rfl⟩ := hsx
          have hmem : off ∈ offs.toList := by
            rw [← Array.getElem?_toList] at hoff
            exact List.mem_of_getElem? hoff
          exact go_br (fun hx H locs ls cells slots rest k => lv_tableIn C.1 C.2.1 hdec (by rw [i32_t hx]; omega) (by rw [i32_t hx]; omega) (by rw [i32_t hx]; exact hoff) (jmp_eq (hos off hmem)) k) K
        · cases hsx
    · cases hsx
  case lookupswitch d ps =>
    simp only [okI, Bool.and_eq_true, decide_eq_true_eq] at hok
    obtain ⟨⟨ho, hos⟩, hsort⟩ := hok
    simp only [sxi, ilk] at hsx
    split at hsx
    · rename_i v r
      rw [nxt_inj] at hsx
      obtain ⟨rfl, rfl, rfl, rfl⟩ := hsx
      have hoff : 0 ≤ (pc : Int) + Op.lookupswitch.offset ps.toList d v := by
        have key : ∀ (L : List (Int × Int)), (∀ o ∈ L, 0 ≤ (pc : Int) + o.2) → 0 ≤ (pc : Int) + Op.lookupswitch.offset L d v := by
          intro L
          induction L with
          | nil => intro _; exact ho
          | cons a L ih =>
            intro hL
            obtain ⟨a1, a2⟩ := a
            rw [Op.lookupswitch.offset_cons]
            split
            · exact hL (a1, a2) List.mem_cons_self
            · exact ih (fun o ho => hL o (List.mem_cons_of_mem _ ho))
        exact key _ (fun o ho => by simpa using List.all_eq_true.mp hos o ho)
      exact go_br (fun hx H locs ls cells slots rest k => lv_lookup C.1 C.2.1 hdec hsort (by rw [i32_t hx]) (jmp_eq hoff) k) K
    · cases hsx
  case dup =>
    simp only [okI, beq_iff_eq] at hok
    subst hok
    simp only [sxi, idup] at hsx
    split at hsx
    · rw [nxt_inj] at hsx
      obtain ⟨rfl, rfl, rfl, rfl⟩ := hsx
      exact go_nh rfl (fun ρ H locs ls cells slots hH hS hL hst k2 => lv_dup C.1 C.2.1 hdec rfl (k2 ls hL (okv_p (okv_c hst).1 hst))) K
    · rw [nxt_inj] at hsx
      obtain ⟨rfl, rfl, rfl, rfl⟩ := hsx
      exact go_nh rfl (fun ρ H locs ls cells slots hH hS hL hst k2 => lv_dup C.1 C.2.1 hdec rfl (k2 ls hL (okv_p (okv_c hst).1 hst))) K
    · cases hsx
  case dup2 =>
    simp only [okI, beq_iff_eq] at hok
    subst hok
    simp only [sxi, idup2] at hsx
    split at hsx
    · rw [nxt_inj] at hsx
      obtain ⟨rfl, rfl, rfl, rfl⟩ := hsx
      exact go_nh rfl (fun ρ H locs ls cells slots hH hS hL hst k2 => lv_dup2_2 C.1 C.2.1 hdec rfl (k2 ls hL (okv_p (okv_c hst).1 hst))) K
    · rw [nxt_inj] at hsx
      obtain ⟨rfl, rfl, rfl, rfl⟩ := hsx
      exact go_nh rfl (fun ρ H locs ls cells slots hH hS hL hst k2 => lv_dup2_11 C.1 C.2.1 hdec rfl rfl (k2 ls hL (okv_p (okv_c hst).1 (okv_p (okv_c (okv_c hst).2).1 hst)))) K
    · rw [nxt_inj] at hsx
      obtain ⟨rfl, rfl, rfl, rfl⟩ := hsx
      exact go_nh rfl (fun ρ H locs ls cells slots hH hS hL hst k2 => lv_dup2_11 C.1 C.2.1 hdec rfl rfl (k2 ls hL (okv_p (okv_c hst).1 (okv_p (okv_c (okv_c hst).2).1 hst)))) K
    · cases hsx
  case pop =>
    simp only [okI, beq_iff_eq] at hok
    subst hok
    simp only [sxi, ipop] at hsx
    split at hsx
    · rw [nxt_inj] at hsx
      obtain ⟨rfl, rfl, rfl, rfl⟩ := hsx
      exact go_nh rfl (fun ρ H locs ls cells slots hH hS hL hst k2 => lv_pop C.1 C.2.1 hdec rfl (k2 ls hL (okv_c hst).2)) K
    · rw [nxt_inj] at hsx
      obtain ⟨rfl, rfl, rfl, rfl⟩ := hsx
      exact go_nh rfl (fun ρ H locs ls cells slots hH hS hL hst k2 => lv_pop C.1 C.2.1 hdec rfl (k2 ls hL (okv_c hst).2)) K
    · cases hsx
  case ireturn =>
    simp only [sxi, iret] at hsx
    repeat' (split at hsx)
    all_goals simp at hsx
  case lreturn =>
    simp only [sxi, jret] at hsx
    repeat' (split at hsx)
    all_goals simp at hsx
  case return_ =>
    simp only [sxi, vret] at hsx
    repeat' (split at hsx)
    all_goals simp at hsx
  all_goals simp [sxi] at hsx
end GOX
