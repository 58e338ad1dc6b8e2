/-! ===== a step of the numbers is a step of the machine ===== -/
def zsz (k : Nat) : Nat := if zck k < 20 then zfN (zck k) else zcn k
def zsS : Nat → Nat
  | 0 => 0
  | k + 1 => zsS k + zsz k
def Cx (p : Program) (R : Room) (s : State) (m : MethodId) (meth : Method) (c : Code) (D : va_G) (cA : Nat → ClassId) (A : Nat → Prop) (sp : Nat × Nat × Nat) (Ls : Nat) (xs : Nat → Int32) (adV : Nat → Nat) (mi : Nat) : Prop :=
  p.tables.exec = Jvm.exec ∧ c.code = zmC mi ∧ s.vm.findClass (zcN (zmK mi)) = some m.cls ∧ c.maxLocals = zmL mi ∧ SS D cA A sp Ls xs adV s ∧ meth.name = (zmY mi).name ∧ mi < 381 ∧ zmH mi ≤ R.frames ∧ zmW mi ≤ R.locals
def Go (p : Program) (l : Launch) (e : Env) (R : Room) (s : State) (m : MethodId) (args : Array Value) (below : List Frame) (meth : Method) (c : Code) (Qf : State → Prop) (D : va_G) (cA : Nat → ClassId) (A : Nat → Prop) (sp : Nat × Nat × Nat) (Ls : Nat) (xs : Nat → Int32) (b : Bool) (c0 s0 a0 : Nat) (ρ0 : Nat → Nat) (mi pc : Nat) (al st : List AV) (h : HP) : Prop :=
  ∀ (ρ : Nat → Nat) (H : Heap) (locs : List Loc) (ls : Array Slot), HK D cA A sp Ls xs b ρ h H → va_S A s.heap H locs → LV ρ (zA b h) ls al → (∀ v ∈ st, okv (zA b h) v) → a0 ≤ zA b h → (∀ k, k < a0 → ρ k = ρ0 k) → al.length = zmL mi →
    W p l e R s m args below meth c H locs (c0 + (zA b h - a0)) (s0 + (zsS (zA b h) - zsS a0)) Qf (F0 m pc ls (st.map (vl ρ)))
section GO
variable {p : Program} {l : Launch} {e : Env} {R : Room} {s : State} {m : MethodId} {args : Array Value} {below : List Frame} {meth : Method} {c : Code} {Qf : State → Prop} {D : va_G} {cA : Nat → ClassId} {A : Nat → Prop} {sp : Nat × Nat × Nat} {Ls : Nat} {xs : Nat → Int32} {adV : Nat → Nat} {b : Bool} {c0 s0 a0 : Nat} {ρ0 : Nat → Nat} {mi pc : Nat} {al st : List AV} {h : HP}
/-- a step that leaves the heap alone -/
theorem go_nh {pc' : Nat} {al' st' : List AV} (hlen : al'.length = al.length)
    (row : ∀ (ρ : Nat → Nat) (H : Heap) (locs : List Loc) (ls : Array Slot) (cells slots : Nat), HK D cA A sp Ls xs b ρ h H → va_S A s.heap H locs → LV ρ (zA b h) ls al → (∀ v ∈ st, okv (zA b h) v) →
      (∀ ls' : Array Slot, LV ρ (zA b h) ls' al' → (∀ v ∈ st', okv (zA b h) v) → W p l e R s m args below meth c H locs cells slots Qf (F0 m pc' ls' (st'.map (vl ρ)))) → W p l e R s m args below meth c H locs cells slots Qf (F0 m pc ls (st.map (vl ρ))))
    (K : Go p l e R s m args below meth c Qf D cA A sp Ls xs b c0 s0 a0 ρ0 mi pc' al' st' h) : Go p l e R s m args below meth c Qf D cA A sp Ls xs b c0 s0 a0 ρ0 mi pc al st h := by
  intro ρ H locs ls hH hS hL hv ha hρ hn
  exact row ρ H locs ls _ _ hH hS hL hv (fun ls' hL' hv' => K ρ H locs ls' hH hS hL' hv' ha hρ (hlen.trans hn))
theorem lst1_len (al : List AV) (i : Nat) (v : AV) : (lst1 al i v).length = al.length := by simp [lst1, lclr_len]
theorem lst2_len (al : List AV) (i : Nat) (v : AV) : (lst2 al i v).length = al.length := by simp [lst2, lclr_len]
theorem okv_c {a : Nat} {v : AV} {st : List AV} (h : ∀ w ∈ v :: st, okv a w) : okv a v ∧ ∀ w ∈ st, okv a w := ⟨h v List.mem_cons_self, fun w hw => h w (List.mem_cons_of_mem _ hw)⟩
theorem okv_p {a : Nat} {v : AV} {st : List AV} (h1 : okv a v) (h : ∀ w ∈ st, okv a w) : ∀ w ∈ v :: st, okv a w := fun w hw => (List.mem_cons.mp hw).elim (fun e => e ▸ h1) (h w)
theorem go_iload_n {k : Fin 4} {v : Int} (C : Cx p R s m meth c D cA A sp Ls xs adV mi) (hd : decode (zmC mi) pc = .ok (.iload_n k, 1)) (hv : al[(k : Nat)]? = some (vi v)) (K : Go p l e R s m args below meth c Qf D cA A sp Ls xs b c0 s0 a0 ρ0 mi (pc + 1) al (vi v :: st) h) : Go p l e R s m args below meth c Qf D cA A sp Ls xs b c0 s0 a0 ρ0 mi pc al st h :=
  go_nh rfl (fun ρ H locs ls cells slots hH hS hL hst k2 => lv_iload_n C.1 C.2.1 hd rfl (hL.ld hv (by simp)).2 (k2 ls hL (okv_p (hL.ld hv (by simp)).1 hst))) K
theorem go_iload {k : Nat} {v : Int} (C : Cx p R s m meth c D cA A sp Ls xs adV mi) (hd : decode (zmC mi) pc = .ok (.iload k, 2)) (hv : al[k]? = some (vi v)) (K : Go p l e R s m args below meth c Qf D cA A sp Ls xs b c0 s0 a0 ρ0 mi (pc + 2) al (vi v :: st) h) : Go p l e R s m args below meth c Qf D cA A sp Ls xs b c0 s0 a0 ρ0 mi pc al st h :=
  go_nh rfl (fun ρ H locs ls cells slots hH hS hL hst k2 => lv_iload C.1 C.2.1 hd (hL.ld hv (by simp)).2 (k2 ls hL (okv_p (hL.ld hv (by simp)).1 hst))) K
theorem go_lload_n {k : Fin 4} {v : Int} (C : Cx p R s m meth c D cA A sp Ls xs adV mi) (hd : decode (zmC mi) pc = .ok (.lload_n k, 1)) (hv : al[(k : Nat)]? = some (vj v)) (K : Go p l e R s m args below meth c Qf D cA A sp Ls xs b c0 s0 a0 ρ0 mi (pc + 1) al (vj v :: st) h) : Go p l e R s m args below meth c Qf D cA A sp Ls xs b c0 s0 a0 ρ0 mi pc al st h :=
  go_nh rfl (fun ρ H locs ls cells slots hH hS hL hst k2 => lv_lload_n C.1 C.2.1 hd rfl (hL.ld hv (by simp)).2 (k2 ls hL (okv_p (hL.ld hv (by simp)).1 hst))) K
theorem go_lload {k : Nat} {v : Int} (C : Cx p R s m meth c D cA A sp Ls xs adV mi) (hd : decode (zmC mi) pc = .ok (.lload k, 2)) (hv : al[k]? = some (vj v)) (K : Go p l e R s m args below meth c Qf D cA A sp Ls xs b c0 s0 a0 ρ0 mi (pc + 2) al (vj v :: st) h) : Go p l e R s m args below meth c Qf D cA A sp Ls xs b c0 s0 a0 ρ0 mi pc al st h :=
  go_nh rfl (fun ρ H locs ls cells slots hH hS hL hst k2 => lv_lload C.1 C.2.1 hd (hL.ld hv (by simp)).2 (k2 ls hL (okv_p (hL.ld hv (by simp)).1 hst))) K
theorem go_aload_n {k : Fin 4} {v : Nat} (C : Cx p R s m meth c D cA A sp Ls xs adV mi) (hd : decode (zmC mi) pc = .ok (.aload_n k, 1)) (hv : al[(k : Nat)]? = some (vr v)) (hn : v ≠ 9999) (K : Go p l e R s m args below meth c Qf D cA A sp Ls xs b c0 s0 a0 ρ0 mi (pc + 1) al (vr v :: st) h) : Go p l e R s m args below meth c Qf D cA A sp Ls xs b c0 s0 a0 ρ0 mi pc al st h :=
  go_nh rfl (fun ρ H locs ls cells slots hH hS hL hst k2 => lv_aload_n C.1 C.2.1 hd rfl (hL.ld hv (by simpa using hn)).2 (k2 ls hL (okv_p (hL.ld hv (by simpa using hn)).1 hst))) K
theorem go_aload {k : Nat} {v : Nat} (C : Cx p R s m meth c D cA A sp Ls xs adV mi) (hd : decode (zmC mi) pc = .ok (.aload k, 2)) (hv : al[k]? = some (vr v)) (hn : v ≠ 9999) (K : Go p l e R s m args below meth c Qf D cA A sp Ls xs b c0 s0 a0 ρ0 mi (pc + 2) al (vr v :: st) h) : Go p l e R s m args below meth c Qf D cA A sp Ls xs b c0 s0 a0 ρ0 mi pc al st h :=
  go_nh rfl (fun ρ H locs ls cells slots hH hS hL hst k2 => lv_aload C.1 C.2.1 hd (hL.ld hv (by simpa using hn)).2 (k2 ls hL (okv_p (hL.ld hv (by simpa using hn)).1 hst))) K
theorem go_istore_n {k : Fin 4} {v : Int} (C : Cx p R s m meth c D cA A sp Ls xs adV mi) (hd : decode (zmC mi) pc = .ok (.istore_n k, 1)) (hk : (k : Nat) < al.length) (K : Go p l e R s m args below meth c Qf D cA A sp Ls xs b c0 s0 a0 ρ0 mi (pc + 1) (lst1 al k (vi v)) st h) : Go p l e R s m args below meth c Qf D cA A sp Ls xs b c0 s0 a0 ρ0 mi pc al (vi v :: st) h :=
  go_nh (lst1_len _ _ _) (fun ρ H locs ls cells slots hH hS hL hst k2 => lv_istore_n C.1 C.2.1 hd rfl hL.has hk rfl (fun ls' h' => k2 ls' (LV.st1 (v := vi v) hk (okv_c hst).1 hL.ok h') (okv_c hst).2)) K
theorem go_istore {k : Nat} {v : Int} (C : Cx p R s m meth c D cA A sp Ls xs adV mi) (hd : decode (zmC mi) pc = .ok (.istore k, 2)) (hk : k < al.length) (K : Go p l e R s m args below meth c Qf D cA A sp Ls xs b c0 s0 a0 ρ0 mi (pc + 2) (lst1 al k (vi v)) st h) : Go p l e R s m args below meth c Qf D cA A sp Ls xs b c0 s0 a0 ρ0 mi pc al (vi v :: st) h :=
  go_nh (lst1_len _ _ _) (fun ρ H locs ls cells slots hH hS hL hst k2 => lv_istore C.1 C.2.1 hd hL.has hk rfl (fun ls' h' => k2 ls' (LV.st1 (v := vi v) hk (okv_c hst).1 hL.ok h') (okv_c hst).2)) K
theorem go_astore_n {k : Fin 4} {v : Nat} (C : Cx p R s m meth c D cA A sp Ls xs adV mi) (hd : decode (zmC mi) pc = .ok (.astore_n k, 1)) (hk : (k : Nat) < al.length) (K : Go p l e R s m args below meth c Qf D cA A sp Ls xs b c0 s0 a0 ρ0 mi (pc + 1) (lst1 al k (vr v)) st h) : Go p l e R s m args below meth c Qf D cA A sp Ls xs b c0 s0 a0 ρ0 mi pc al (vr v :: st) h :=
  go_nh (lst1_len _ _ _) (fun ρ H locs ls cells slots hH hS hL hst k2 => lv_astore_n C.1 C.2.1 hd rfl hL.has hk rfl (fun ls' h' => k2 ls' (LV.st1 (v := vr v) hk (okv_c hst).1 hL.ok h') (okv_c hst).2)) K
theorem go_lstore_n {k : Fin 4} {v : Int} (C : Cx p R s m meth c D cA A sp Ls xs adV mi) (hd : decode (zmC mi) pc = .ok (.lstore_n k, 1)) (hk : (k : Nat) + 1 < al.length) (K : Go p l e R s m args below meth c Qf D cA A sp Ls xs b c0 s0 a0 ρ0 mi (pc + 1) (lst2 al k (vj v)) st h) : Go p l e R s m args below meth c Qf D cA A sp Ls xs b c0 s0 a0 ρ0 mi pc al (vj v :: st) h :=
  go_nh (lst2_len _ _ _) (fun ρ H locs ls cells slots hH hS hL hst k2 => lv_lstore_n C.1 C.2.1 hd rfl hL.has hk rfl (fun ls' h' => k2 ls' (LV.st2 (v := vj v) hk (okv_c hst).1 hL.ok h') (okv_c hst).2)) K
theorem go_lstore {k : Nat} {v : Int} (C : Cx p R s m meth c D cA A sp Ls xs adV mi) (hd : decode (zmC mi) pc = .ok (.lstore k, 2)) (hk : k + 1 < al.length) (K : Go p l e R s m args below meth c Qf D cA A sp Ls xs b c0 s0 a0 ρ0 mi (pc + 2) (lst2 al k (vj v)) st h) : Go p l e R s m args below meth c Qf D cA A sp Ls xs b c0 s0 a0 ρ0 mi pc al (vj v :: st) h :=
  go_nh (lst2_len _ _ _) (fun ρ H locs ls cells slots hH hS hL hst k2 => lv_lstore C.1 C.2.1 hd hL.has hk rfl (fun ls' h' => k2 ls' (LV.st2 (v := vj v) hk (okv_c hst).1 hL.ok h') (okv_c hst).2)) K
theorem go_iinc {k : Nat} {n v : Int} (C : Cx p R s m meth c D cA A sp Ls xs adV mi) (hd : decode (zmC mi) pc = .ok (.iinc k n, 3)) (hv : al[k]? = some (vi v)) (K : Go p l e R s m args below meth c Qf D cA A sp Ls xs b c0 s0 a0 ρ0 mi (pc + 3) (lst1 al k (vi (w32 (v + n)))) st h) : Go p l e R s m args below meth c Qf D cA A sp Ls xs b c0 s0 a0 ρ0 mi pc al st h := by
  have hk : k < al.length := (List.getElem?_eq_some_iff.mp hv).1
  refine go_nh (lst1_len _ _ _) (fun ρ H locs ls cells slots hH hS hL hst k2 => ?_) K
  have hm : ((k, vl ρ (vi v)) : Nat × Value) ∈ lvl ρ al := mem_lvl.mpr ⟨vi v, hv, by simp, rfl⟩
  obtain ⟨i, hi⟩ := List.getElem?_of_mem hm
  exact lv_iinc C.1 C.2.1 hd hL.has (k := i) hi (by rw [i32_add]) hk rfl (fun ls' h' => k2 ls' (LV.st1 (v := vi (w32 (v + n))) hk (in32_w32 _) hL.ok h') hst)
theorem go_push {v : Int} (C : Cx p R s m meth c D cA A sp Ls xs adV mi) (h32 : in32 v) {pc' : Nat}
    (row : ∀ (H : Heap) (locs : List Loc) (ls : Array Slot) (cells slots : Nat) (rest : List Value), W p l e R s m args below meth c H locs cells slots Qf (F0 m pc' ls (.int (Int32.ofInt v) :: rest)) → W p l e R s m args below meth c H locs cells slots Qf (F0 m pc ls rest))
    (K : Go p l e R s m args below meth c Qf D cA A sp Ls xs b c0 s0 a0 ρ0 mi pc' al (vi v :: st) h) : Go p l e R s m args below meth c Qf D cA A sp Ls xs b c0 s0 a0 ρ0 mi pc al st h :=
  go_nh rfl (fun ρ H locs ls cells slots hH hS hL hst k2 => row _ _ _ _ _ _ (k2 ls hL (okv_p (show okv _ (vi v) from h32) hst))) K
/-- one int in, one int out -/
theorem go_i1 {v w : Int} (hok : in32 v → in32 w) {pc' : Nat}
    (row : in32 v → ∀ (H : Heap) (locs : List Loc) (ls : Array Slot) (cells slots : Nat) (rest : List Value), W p l e R s m args below meth c H locs cells slots Qf (F0 m pc' ls (.int (Int32.ofInt w) :: rest)) → W p l e R s m args below meth c H locs cells slots Qf (F0 m pc ls (.int (Int32.ofInt v) :: rest)))
    (K : Go p l e R s m args below meth c Qf D cA A sp Ls xs b c0 s0 a0 ρ0 mi pc' al (vi w :: st) h) : Go p l e R s m args below meth c Qf D cA A sp Ls xs b c0 s0 a0 ρ0 mi pc al (vi v :: st) h :=
  go_nh rfl (fun ρ H locs ls cells slots hH hS hL hst k2 => row (okv_c hst).1 _ _ _ _ _ _ (k2 ls hL (okv_p (show okv _ (vi w) from hok (okv_c hst).1) (okv_c hst).2))) K
/-- two ints in, one int out -/
theorem go_i2 {x y w : Int} (hok : in32 x → in32 y → in32 w) {pc' : Nat}
    (row : in32 x → in32 y → ∀ (H : Heap) (locs : List Loc) (ls : Array Slot) (cells slots : Nat) (rest : List Value), W p l e R s m args below meth c H locs cells slots Qf (F0 m pc' ls (.int (Int32.ofInt w) :: rest)) → W p l e R s m args below meth c H locs cells slots Qf (F0 m pc ls (.int (Int32.ofInt y) :: .int (Int32.ofInt x) :: rest)))
    (K : Go p l e R s m args below meth c Qf D cA A sp Ls xs b c0 s0 a0 ρ0 mi pc' al (vi w :: st) h) : Go p l e R s m args below meth c Qf D cA A sp Ls xs b c0 s0 a0 ρ0 mi pc al (vi y :: vi x :: st) h :=
  go_nh rfl (fun ρ H locs ls cells slots hH hS hL hst k2 => row (okv_c (okv_c hst).2).1 (okv_c hst).1 _ _ _ _ _ _ (k2 ls hL (okv_p (show okv _ (vi w) from hok (okv_c (okv_c hst).2).1 (okv_c hst).1) (okv_c (okv_c hst).2).2))) K
theorem go_j2 {x y w : Int} (hok : in64 x → in64 y → in64 w) {pc' : Nat}
    (row : in64 x → in64 y → ∀ (H : Heap) (locs : List Loc) (ls : Array Slot) (cells slots : Nat) (rest : List Value), W p l e R s m args below meth c H locs cells slots Qf (F0 m pc' ls (.long (Int64.ofInt w) :: rest)) → W p l e R s m args below meth c H locs cells slots Qf (F0 m pc ls (.long (Int64.ofInt y) :: .long (Int64.ofInt x) :: rest)))
    (K : Go p l e R s m args below meth c Qf D cA A sp Ls xs b c0 s0 a0 ρ0 mi pc' al (vj w :: st) h) : Go p l e R s m args below meth c Qf D cA A sp Ls xs b c0 s0 a0 ρ0 mi pc al (vj y :: vj x :: st) h :=
  go_nh rfl (fun ρ H locs ls cells slots hH hS hL hst k2 => row (okv_c (okv_c hst).2).1 (okv_c hst).1 _ _ _ _ _ _ (k2 ls hL (okv_p (show okv _ (vj w) from hok (okv_c (okv_c hst).2).1 (okv_c hst).1) (okv_c (okv_c hst).2).2))) K
theorem go_jsh {x y w : Int} (hok : in64 w) {pc' : Nat}
    (row : ∀ (H : Heap) (locs : List Loc) (ls : Array Slot) (cells slots : Nat) (rest : List Value), W p l e R s m args below meth c H locs cells slots Qf (F0 m pc' ls (.long (Int64.ofInt w) :: rest)) → W p l e R s m args below meth c H locs cells slots Qf (F0 m pc ls (.int (Int32.ofInt y) :: .long (Int64.ofInt x) :: rest)))
    (K : Go p l e R s m args below meth c Qf D cA A sp Ls xs b c0 s0 a0 ρ0 mi pc' al (vj w :: st) h) : Go p l e R s m args below meth c Qf D cA A sp Ls xs b c0 s0 a0 ρ0 mi pc al (vi y :: vj x :: st) h :=
  go_nh rfl (fun ρ H locs ls cells slots hH hS hL hst k2 => row _ _ _ _ _ _ (k2 ls hL (okv_p (show okv _ (vj w) from hok) (okv_c (okv_c hst).2).2))) K
theorem go_jmp {pc' : Nat} (row : ∀ (H : Heap) (locs : List Loc) (ls : Array Slot) (cells slots : Nat) (rest : List Value), W p l e R s m args below meth c H locs cells slots Qf (F0 m pc' ls rest) → W p l e R s m args below meth c H locs cells slots Qf (F0 m pc ls rest))
    (K : Go p l e R s m args below meth c Qf D cA A sp Ls xs b c0 s0 a0 ρ0 mi pc' al st h) : Go p l e R s m args below meth c Qf D cA A sp Ls xs b c0 s0 a0 ρ0 mi pc al st h :=
  go_nh rfl (fun ρ H locs ls cells slots hH hS hL hst k2 => row _ _ _ _ _ _ (k2 ls hL hst)) K
theorem go_br {x : Int} {pc' : Nat} (row : in32 x → ∀ (H : Heap) (locs : List Loc) (ls : Array Slot) (cells slots : Nat) (rest : List Value), W p l e R s m args below meth c H locs cells slots Qf (F0 m pc' ls rest) → W p l e R s m args below meth c H locs cells slots Qf (F0 m pc ls (.int (Int32.ofInt x) :: rest)))
    (K : Go p l e R s m args below meth c Qf D cA A sp Ls xs b c0 s0 a0 ρ0 mi pc' al st h) : Go p l e R s m args below meth c Qf D cA A sp Ls xs b c0 s0 a0 ρ0 mi pc al (vi x :: st) h :=
  go_nh rfl (fun ρ H locs ls cells slots hH hS hL hst k2 => row (okv_c hst).1 _ _ _ _ _ _ (k2 ls hL (okv_c hst).2)) K
theorem go_br2 {x y : Int} {pc' : Nat} (row : in32 x → in32 y → ∀ (H : Heap) (locs : List Loc) (ls : Array Slot) (cells slots : Nat) (rest : List Value), W p l e R s m args below meth c H locs cells slots Qf (F0 m pc' ls rest) → W p l e R s m args below meth c H locs cells slots Qf (F0 m pc ls (.int (Int32.ofInt y) :: .int (Int32.ofInt x) :: rest)))
    (K : Go p l e R s m args below meth c Qf D cA A sp Ls xs b c0 s0 a0 ρ0 mi pc' al st h) : Go p l e R s m args below meth c Qf D cA A sp Ls xs b c0 s0 a0 ρ0 mi pc al (vi y :: vi x :: st) h :=
  go_nh rfl (fun ρ H locs ls cells slots hH hS hL hst k2 => row (okv_c (okv_c hst).2).1 (okv_c hst).1 _ _ _ _ _ _ (k2 ls hL (okv_c (okv_c hst).2).2)) K
theorem jmp_eq {pc : Nat} {off : Int} (h : 0 ≤ (pc : Int) + off) : (pc : Int) + off = ((jmp pc off : Nat) : Int) := by unfold jmp; omega
theorem go_ifCond {cd : ClassFile.Cond} {off x : Int} (C : Cx p R s m meth c D cA A sp Ls xs adV mi) (hd : decode (zmC mi) pc = .ok (.ifCond cd off, 3)) (ho : 0 ≤ (pc : Int) + off)
    (K : Go p l e R s m args below meth c Qf D cA A sp Ls xs b c0 s0 a0 ρ0 mi (if cmpb cd x 0 = true then jmp pc off else pc + 3) al st h) : Go p l e R s m args below meth c Qf D cA A sp Ls xs b c0 s0 a0 ρ0 mi pc al (vi x :: st) h := by
  refine go_br (fun hx H locs ls cells slots rest k2 => ?_) K
  have j := jmp_eq ho
  have e0 : (0 : Int32) = Int32.ofInt 0 := rfl
  cases cd with
  | eq => exact lv_if_eq C.1 C.2.1 hd j (fun q => by rw [e0, i32_eq hx in32_0] at q; simpa [cmpb, q] using k2) (fun q => by rw [e0, i32_eq hx in32_0] at q; simpa [cmpb, q] using k2)
  | ne => exact lv_if_ne C.1 C.2.1 hd j (fun q => by rw [e0, i32_eq hx in32_0] at q; simpa [cmpb, q] using k2) (fun q => by rw [e0, i32_eq hx in32_0] at q; simpa [cmpb, q] using k2)
  | lt => exact lv_if_lt C.1 C.2.1 hd j (fun q => by rw [e0, i32_lt hx in32_0] at q; simpa [cmpb, q] using k2) (fun q => by rw [e0, i32_lt hx in32_0] at q; simpa [cmpb, q] using k2)
  | ge => exact lv_if_ge C.1 C.2.1 hd j (fun q => by rw [e0, i32_le in32_0 hx] at q; simpa [cmpb, q] using k2) (fun q => by rw [e0, i32_le in32_0 hx] at q; simpa [cmpb, q] using k2)
  | gt => exact lv_if_gt C.1 C.2.1 hd j (fun q => by rw [e0, i32_lt in32_0 hx] at q; simpa [cmpb, q] using k2) (fun q => by rw [e0, i32_lt in32_0 hx] at q; simpa [cmpb, q] using k2)
  | le => exact lv_if_le C.1 C.2.1 hd j (fun q => by rw [e0, i32_le hx in32_0] at q; simpa [cmpb, q] using k2) (fun q => by rw [e0, i32_le hx in32_0] at q; simpa [cmpb, q] using k2)
theorem go_icmp {cd : ClassFile.Cond} {off x y : Int} (C : Cx p R s m meth c D cA A sp Ls xs adV mi) (hd : decode (zmC mi) pc = .ok (.if_icmp cd off, 3)) (ho : 0 ≤ (pc : Int) + off)
    (K : Go p l e R s m args below meth c Qf D cA A sp Ls xs b c0 s0 a0 ρ0 mi (if cmpb cd x y = true then jmp pc off else pc + 3) al st h) : Go p l e R s m args below meth c Qf D cA A sp Ls xs b c0 s0 a0 ρ0 mi pc al (vi y :: vi x :: st) h := by
  refine go_br2 (fun hx hy H locs ls cells slots rest k2 => ?_) K
  have j := jmp_eq ho
  cases cd with
  | eq => exact lv_icmp_eq C.1 C.2.1 hd j (fun q => by rw [i32_eq hx hy] at q; simpa [cmpb, q] using k2) (fun q => by rw [i32_eq hx hy] at q; simpa [cmpb, q] using k2)
  | ne => exact lv_icmp_ne C.1 C.2.1 hd j (fun q => by rw [i32_eq hx hy] at q; simpa [cmpb, q] using k2) (fun q => by rw [i32_eq hx hy] at q; simpa [cmpb, q] using k2)
  | lt => exact lv_icmp_lt C.1 C.2.1 hd j (fun q => by rw [i32_lt hx hy] at q; simpa [cmpb, q] using k2) (fun q => by rw [i32_lt hx hy] at q; simpa [cmpb, q] using k2)
  | ge => exact lv_icmp_ge C.1 C.2.1 hd j (fun q => by rw [i32_le hy hx] at q; simpa [cmpb, q] using k2) (fun q => by rw [i32_le hy hx] at q; simpa [cmpb, q] using k2)
  | gt => exact lv_icmp_gt C.1 C.2.1 hd j (fun q => by rw [i32_lt hy hx] at q; simpa [cmpb, q] using k2) (fun q => by rw [i32_lt hy hx] at q; simpa [cmpb, q] using k2)
  | le => exact lv_icmp_le C.1 C.2.1 hd j (fun q => by rw [i32_le hx hy] at q; simpa [cmpb, q] using k2) (fun q => by rw [i32_le hx hy] at q; simpa [cmpb, q] using k2)
end GO
