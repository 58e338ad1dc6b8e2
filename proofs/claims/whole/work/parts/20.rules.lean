/-! ===== rules: an instruction at a time, over numbers ===== -/
section RU
variable {b : Bool} {mi pc : Nat} {ls st : List AV} {h : HP} {Q : PQ} {x y z : Nat} {c : Int}
theorem r_iconst {n : Int} (hf : zfetch mi pc = some (.iconst n, 1, x, y, z, c)) (hn : -2147483648 ≤ n ∧ n ≤ 2147483647) (K : Wp b mi (pc + 1) ls (vi n :: st) h Q) : Wp b mi pc ls st h Q := Wp.step (by simp only [sx, hf, sxi, ipush, nxt]; rw [if_pos hn]) K
theorem r_bipush {n : Int} (hf : zfetch mi pc = some (.bipush n, 2, x, y, z, c)) (hn : -2147483648 ≤ n ∧ n ≤ 2147483647) (K : Wp b mi (pc + 2) ls (vi n :: st) h Q) : Wp b mi pc ls st h Q := Wp.step (by simp only [sx, hf, sxi, ipush, nxt]; rw [if_pos hn]) K
theorem r_sipush {n : Int} (hf : zfetch mi pc = some (.sipush n, 3, x, y, z, c)) (hn : -2147483648 ≤ n ∧ n ≤ 2147483647) (K : Wp b mi (pc + 3) ls (vi n :: st) h Q) : Wp b mi pc ls st h Q := Wp.step (by simp only [sx, hf, sxi, ipush, nxt]; rw [if_pos hn]) K
theorem r_lconst {n : Fin 2} {v : Int} (hf : zfetch mi pc = some (.lconst n, 1, x, y, z, c)) (hv : ((n : Nat) : Int) = v) (K : Wp b mi (pc + 1) ls (vj v :: st) h Q) : Wp b mi pc ls st h Q := by
  subst hv
  exact Wp.step (by simp only [sx, hf, sxi, nxt]) K
theorem r_ldc {n : Nat} (hf : zfetch mi pc = some (.ldc n, 2, 0, y, z, c)) (hn : -2147483648 ≤ c ∧ c ≤ 2147483647) (K : Wp b mi (pc + 2) ls (vi c :: st) h Q) : Wp b mi pc ls st h Q := Wp.step (by simp only [sx, hf, sxi, ildc, ipush, nxt]; rw [if_pos trivial, if_pos hn]) K
theorem r_ldcS {n : Nat} (hf : zfetch mi pc = some (.ldc n, 2, x, y, z, c)) (hx : x = 2000 ∨ x = 2001) (K : Wp b mi (pc + 2) ls (vr x :: st) h Q) : Wp b mi pc ls st h Q := Wp.step (by simp only [sx, hf, sxi, ildc, nxt]; rw [if_neg (by omega), if_pos hx]) K
theorem r_ldc_w {n : Nat} (hf : zfetch mi pc = some (.ldc_w n, 3, x, y, z, c)) (hn : -2147483648 ≤ c ∧ c ≤ 2147483647) (K : Wp b mi (pc + 3) ls (vi c :: st) h Q) : Wp b mi pc ls st h Q := Wp.step (by simp only [sx, hf, sxi, ipush, nxt]; rw [if_pos hn]) K
theorem r_ldc2_w {n : Nat} (hf : zfetch mi pc = some (.ldc2_w n, 3, x, y, z, c)) (hn : -9223372036854775808 ≤ c ∧ c ≤ 9223372036854775807) (K : Wp b mi (pc + 3) ls (vj c :: st) h Q) : Wp b mi pc ls st h Q := Wp.step (by simp only [sx, hf, sxi, nxt]; rw [if_pos hn]) K
theorem r_iload {k : Nat} {v : Int} (hf : zfetch mi pc = some (.iload k, 2, x, y, z, c)) (hv : ls[k]? = some (vi v)) (K : Wp b mi (pc + 2) ls (vi v :: st) h Q) : Wp b mi pc ls st h Q := Wp.step (by simp only [sx, hf, sxi, ildi, hv, nxt]) K
theorem r_iload_n {k : Fin 4} {v : Int} (hf : zfetch mi pc = some (.iload_n k, 1, x, y, z, c)) (hv : ls[(k : Nat)]? = some (vi v)) (K : Wp b mi (pc + 1) ls (vi v :: st) h Q) : Wp b mi pc ls st h Q := Wp.step (by simp only [sx, hf, sxi, ildi, hv, nxt]) K
theorem r_lload {k : Nat} {v : Int} (hf : zfetch mi pc = some (.lload k, 2, x, y, z, c)) (hv : ls[k]? = some (vj v)) (K : Wp b mi (pc + 2) ls (vj v :: st) h Q) : Wp b mi pc ls st h Q := Wp.step (by simp only [sx, hf, sxi, ildj, hv, nxt]) K
theorem r_lload_n {k : Fin 4} {v : Int} (hf : zfetch mi pc = some (.lload_n k, 1, x, y, z, c)) (hv : ls[(k : Nat)]? = some (vj v)) (K : Wp b mi (pc + 1) ls (vj v :: st) h Q) : Wp b mi pc ls st h Q := Wp.step (by simp only [sx, hf, sxi, ildj, hv, nxt]) K
theorem r_aload {k v : Nat} (hf : zfetch mi pc = some (.aload k, 2, x, y, z, c)) (hv : ls[k]? = some (vr v)) (hn : v ≠ 9999) (K : Wp b mi (pc + 2) ls (vr v :: st) h Q) : Wp b mi pc ls st h Q := Wp.step (by simp only [sx, hf, sxi, ilda, hv, nxt]; rw [if_neg hn]) K
theorem r_aload_n {k : Fin 4} {v : Nat} (hf : zfetch mi pc = some (.aload_n k, 1, x, y, z, c)) (hv : ls[(k : Nat)]? = some (vr v)) (hn : v ≠ 9999) (K : Wp b mi (pc + 1) ls (vr v :: st) h Q) : Wp b mi pc ls st h Q := Wp.step (by simp only [sx, hf, sxi, ilda, hv, nxt]; rw [if_neg hn]) K
theorem r_istore {k : Nat} {v : Int} {ls' : List AV} (hf : zfetch mi pc = some (.istore k, 2, x, y, z, c)) (hk : k < ls.length) (hl : lst1 ls k (vi v) = ls') (K : Wp b mi (pc + 2) ls' st h Q) : Wp b mi pc ls (vi v :: st) h Q := by
  subst hl
  exact Wp.step (by simp only [sx, hf, sxi, isti, nxt]; rw [if_pos hk]) K
theorem r_istore_n {k : Fin 4} {v : Int} {ls' : List AV} (hf : zfetch mi pc = some (.istore_n k, 1, x, y, z, c)) (hk : (k : Nat) < ls.length) (hl : lst1 ls k (vi v) = ls') (K : Wp b mi (pc + 1) ls' st h Q) : Wp b mi pc ls (vi v :: st) h Q := by
  subst hl
  exact Wp.step (by simp only [sx, hf, sxi, isti, nxt]; rw [if_pos hk]) K
theorem r_astore_n {k : Fin 4} {v : Nat} {ls' : List AV} (hf : zfetch mi pc = some (.astore_n k, 1, x, y, z, c)) (hk : (k : Nat) < ls.length) (hl : lst1 ls k (vr v) = ls') (K : Wp b mi (pc + 1) ls' st h Q) : Wp b mi pc ls (vr v :: st) h Q := by
  subst hl
  exact Wp.step (by simp only [sx, hf, sxi, ista, nxt]; rw [if_pos hk]) K
theorem r_lstore {k : Nat} {v : Int} {ls' : List AV} (hf : zfetch mi pc = some (.lstore k, 2, x, y, z, c)) (hk : k + 1 < ls.length) (hl : lst2 ls k (vj v) = ls') (K : Wp b mi (pc + 2) ls' st h Q) : Wp b mi pc ls (vj v :: st) h Q := by
  subst hl
  exact Wp.step (by simp only [sx, hf, sxi, istj, nxt]; rw [if_pos hk]) K
theorem r_lstore_n {k : Fin 4} {v : Int} {ls' : List AV} (hf : zfetch mi pc = some (.lstore_n k, 1, x, y, z, c)) (hk : (k : Nat) + 1 < ls.length) (hl : lst2 ls k (vj v) = ls') (K : Wp b mi (pc + 1) ls' st h Q) : Wp b mi pc ls (vj v :: st) h Q := by
  subst hl
  exact Wp.step (by simp only [sx, hf, sxi, istj, nxt]; rw [if_pos hk]) K
theorem r_iinc {k : Nat} {n v w : Int} {ls' : List AV} (hf : zfetch mi pc = some (.iinc k n, 3, x, y, z, c)) (hv : ls[k]? = some (vi v)) (hw : v + n = w) (hr : -2147483648 ≤ w ∧ w ≤ 2147483647) (hl : lst1 ls k (vi w) = ls') (K : Wp b mi (pc + 3) ls' st h Q) : Wp b mi pc ls st h Q := by
  subst hl
  subst hw
  exact Wp.step (by simp only [sx, hf, sxi, iinc0, hv, nxt]; rw [w32_id hr.1 hr.2]) K
theorem r_iadd {v w u : Int} (hf : zfetch mi pc = some (.iadd, 1, x, y, z, c)) (hu : v + w = u) (hr : -2147483648 ≤ u ∧ u ≤ 2147483647) (K : Wp b mi (pc + 1) ls (vi u :: st) h Q) : Wp b mi pc ls (vi w :: vi v :: st) h Q := by
  subst hu
  exact Wp.step (by simp only [sx, hf, sxi, ibin, nxt]; rw [w32_id hr.1 hr.2]) K
theorem r_isub {v w u : Int} (hf : zfetch mi pc = some (.isub, 1, x, y, z, c)) (hu : v - w = u) (hr : -2147483648 ≤ u ∧ u ≤ 2147483647) (K : Wp b mi (pc + 1) ls (vi u :: st) h Q) : Wp b mi pc ls (vi w :: vi v :: st) h Q := by
  subst hu
  exact Wp.step (by simp only [sx, hf, sxi, ibin, nxt]; rw [w32_id hr.1 hr.2]) K
theorem r_imul {v w u : Int} (hf : zfetch mi pc = some (.imul, 1, x, y, z, c)) (hu : v * w = u) (hr : -2147483648 ≤ u ∧ u ≤ 2147483647) (K : Wp b mi (pc + 1) ls (vi u :: st) h Q) : Wp b mi pc ls (vi w :: vi v :: st) h Q := by
  subst hu
  exact Wp.step (by simp only [sx, hf, sxi, ibin, nxt]; rw [w32_id hr.1 hr.2]) K
theorem r_idiv {v w : Int} (hf : zfetch mi pc = some (.idiv, 1, x, y, z, c)) (hv : 0 ≤ v ∧ v ≤ 2147483647) (hw : 0 < w) (K : Wp b mi (pc + 1) ls (vi (v / w) :: st) h Q) : Wp b mi pc ls (vi w :: vi v :: st) h Q := by
  have e1 : Int.tdiv v w = v / w := Int.tdiv_eq_ediv_of_nonneg hv.1
  have e2 : 0 ≤ v / w := Int.ediv_nonneg hv.1 (by omega)
  have e3 : v / w ≤ v := Int.ediv_le_self w hv.1
  exact Wp.step (by simp only [sx, hf, sxi, idiv0, nxt]; rw [if_neg (by omega), e1, w32_id (by omega) (by omega)]) K
theorem r_irem {v w : Int} (hf : zfetch mi pc = some (.irem, 1, x, y, z, c)) (hv : 0 ≤ v) (hw : 0 < w) (K : Wp b mi (pc + 1) ls (vi (v % w) :: st) h Q) : Wp b mi pc ls (vi w :: vi v :: st) h Q := by
  have e1 : Int.tmod v w = v % w := Int.tmod_eq_emod_of_nonneg hv
  exact Wp.step (by simp only [sx, hf, sxi, idiv0, nxt]; rw [if_neg (by omega), e1]) K
theorem r_ineg {v u : Int} (hf : zfetch mi pc = some (.ineg, 1, x, y, z, c)) (hu : -v = u) (hr : -2147483648 ≤ u ∧ u ≤ 2147483647) (K : Wp b mi (pc + 1) ls (vi u :: st) h Q) : Wp b mi pc ls (vi v :: st) h Q := by
  subst hu
  exact Wp.step (by simp only [sx, hf, sxi, icv, nxt]; rw [w32_id hr.1 hr.2]) K
theorem r_iand {v w : Int} (hf : zfetch mi pc = some (.iand, 1, x, y, z, c)) (K : Wp b mi (pc + 1) ls (vi (o_and v w) :: st) h Q) : Wp b mi pc ls (vi w :: vi v :: st) h Q := Wp.step (by simp only [sx, hf, sxi, ibin, nxt]) K
theorem r_ior {v w : Int} (hf : zfetch mi pc = some (.ior, 1, x, y, z, c)) (K : Wp b mi (pc + 1) ls (vi (o_or v w) :: st) h Q) : Wp b mi pc ls (vi w :: vi v :: st) h Q := Wp.step (by simp only [sx, hf, sxi, ibin, nxt]) K
theorem r_ishl {v w : Int} (hf : zfetch mi pc = some (.ishl, 1, x, y, z, c)) (K : Wp b mi (pc + 1) ls (vi (o_shl v w) :: st) h Q) : Wp b mi pc ls (vi w :: vi v :: st) h Q := Wp.step (by simp only [sx, hf, sxi, ibin, nxt]) K
theorem r_ishr {v w : Int} (hf : zfetch mi pc = some (.ishr, 1, x, y, z, c)) (K : Wp b mi (pc + 1) ls (vi (o_shr v w) :: st) h Q) : Wp b mi pc ls (vi w :: vi v :: st) h Q := Wp.step (by simp only [sx, hf, sxi, ibin, nxt]) K
theorem r_i2b {v : Int} (hf : zfetch mi pc = some (.i2b, 1, x, y, z, c)) (K : Wp b mi (pc + 1) ls (vi (w8 v) :: st) h Q) : Wp b mi pc ls (vi v :: st) h Q := Wp.step (by simp only [sx, hf, sxi, icv, nxt]) K
theorem r_i2s {v : Int} (hf : zfetch mi pc = some (.i2s, 1, x, y, z, c)) (K : Wp b mi (pc + 1) ls (vi (w16 v) :: st) h Q) : Wp b mi pc ls (vi v :: st) h Q := Wp.step (by simp only [sx, hf, sxi, icv, nxt]) K
theorem r_i2l {v : Int} (hf : zfetch mi pc = some (.i2l, 1, x, y, z, c)) (K : Wp b mi (pc + 1) ls (vj v :: st) h Q) : Wp b mi pc ls (vi v :: st) h Q := Wp.step (by simp only [sx, hf, sxi, ii2l, nxt]) K
theorem r_l2i {v : Int} (hf : zfetch mi pc = some (.l2i, 1, x, y, z, c)) (K : Wp b mi (pc + 1) ls (vi (w32 v) :: st) h Q) : Wp b mi pc ls (vj v :: st) h Q := Wp.step (by simp only [sx, hf, sxi, il2i, nxt]) K
theorem r_ladd {v w u : Int} (hf : zfetch mi pc = some (.ladd, 1, x, y, z, c)) (hu : v + w = u) (hr : -9223372036854775808 ≤ u ∧ u ≤ 9223372036854775807) (K : Wp b mi (pc + 1) ls (vj u :: st) h Q) : Wp b mi pc ls (vj w :: vj v :: st) h Q := by
  subst hu
  exact Wp.step (by simp only [sx, hf, sxi, jbin, nxt]; rw [w64_id hr.1 hr.2]) K
theorem r_lsub {v w u : Int} (hf : zfetch mi pc = some (.lsub, 1, x, y, z, c)) (hu : v - w = u) (hr : -9223372036854775808 ≤ u ∧ u ≤ 9223372036854775807) (K : Wp b mi (pc + 1) ls (vj u :: st) h Q) : Wp b mi pc ls (vj w :: vj v :: st) h Q := by
  subst hu
  exact Wp.step (by simp only [sx, hf, sxi, jbin, nxt]; rw [w64_id hr.1 hr.2]) K
theorem r_lmul {v w u : Int} (hf : zfetch mi pc = some (.lmul, 1, x, y, z, c)) (hu : v * w = u) (hr : -9223372036854775808 ≤ u ∧ u ≤ 9223372036854775807) (K : Wp b mi (pc + 1) ls (vj u :: st) h Q) : Wp b mi pc ls (vj w :: vj v :: st) h Q := by
  subst hu
  exact Wp.step (by simp only [sx, hf, sxi, jbin, nxt]; rw [w64_id hr.1 hr.2]) K
theorem r_ldiv {v w : Int} (hf : zfetch mi pc = some (.ldiv, 1, x, y, z, c)) (hv : 0 ≤ v ∧ v ≤ 9223372036854775807) (hw : 0 < w) (K : Wp b mi (pc + 1) ls (vj (v / w) :: st) h Q) : Wp b mi pc ls (vj w :: vj v :: st) h Q := by
  have e1 : Int.tdiv v w = v / w := Int.tdiv_eq_ediv_of_nonneg hv.1
  have e2 : 0 ≤ v / w := Int.ediv_nonneg hv.1 (by omega)
  have e3 : v / w ≤ v := Int.ediv_le_self w hv.1
  exact Wp.step (by simp only [sx, hf, sxi, jdiv0, nxt]; rw [if_neg (by omega), e1, w64_id (by omega) (by omega)]) K
theorem r_lrem {v w : Int} (hf : zfetch mi pc = some (.lrem, 1, x, y, z, c)) (hv : 0 ≤ v) (hw : 0 < w) (K : Wp b mi (pc + 1) ls (vj (v % w) :: st) h Q) : Wp b mi pc ls (vj w :: vj v :: st) h Q := by
  have e1 : Int.tmod v w = v % w := Int.tmod_eq_emod_of_nonneg hv
  exact Wp.step (by simp only [sx, hf, sxi, jdiv0, nxt]; rw [if_neg (by omega), e1]) K
theorem r_land {v w : Int} (hf : zfetch mi pc = some (.land, 1, x, y, z, c)) (K : Wp b mi (pc + 1) ls (vj (o_land v w) :: st) h Q) : Wp b mi pc ls (vj w :: vj v :: st) h Q := Wp.step (by simp only [sx, hf, sxi, jbin, nxt]) K
theorem r_lor {v w : Int} (hf : zfetch mi pc = some (.lor, 1, x, y, z, c)) (K : Wp b mi (pc + 1) ls (vj (o_lor v w) :: st) h Q) : Wp b mi pc ls (vj w :: vj v :: st) h Q := Wp.step (by simp only [sx, hf, sxi, jbin, nxt]) K
theorem r_lshl {v w : Int} (hf : zfetch mi pc = some (.lshl, 1, x, y, z, c)) (K : Wp b mi (pc + 1) ls (vj (o_lshl v w) :: st) h Q) : Wp b mi pc ls (vi w :: vj v :: st) h Q := Wp.step (by simp only [sx, hf, sxi, jsh, nxt]) K
theorem r_lshr {v w : Int} (hf : zfetch mi pc = some (.lshr, 1, x, y, z, c)) (K : Wp b mi (pc + 1) ls (vj (o_lshr v w) :: st) h Q) : Wp b mi pc ls (vi w :: vj v :: st) h Q := Wp.step (by simp only [sx, hf, sxi, jsh, nxt]) K
theorem r_lushr {v w : Int} (hf : zfetch mi pc = some (.lushr, 1, x, y, z, c)) (K : Wp b mi (pc + 1) ls (vj (o_lushr v w) :: st) h Q) : Wp b mi pc ls (vi w :: vj v :: st) h Q := Wp.step (by simp only [sx, hf, sxi, jsh, nxt]) K
theorem r_lcmp {v w : Int} (hf : zfetch mi pc = some (.lcmp, 1, x, y, z, c)) (K : Wp b mi (pc + 1) ls (vi (o_lcmp v w) :: st) h Q) : Wp b mi pc ls (vj w :: vj v :: st) h Q := Wp.step (by simp only [sx, hf, sxi, ilcmp, nxt]) K
theorem r_iaload {k n : Nat} {i v : Int} (hf : zfetch mi pc = some (.iaload, 1, x, y, z, c)) (hk : zck k = 20 ∧ zcn k = n) (hi : 0 ≤ i ∧ i < n) (hv : h k i.toNat = v) (K : Wp b mi (pc + 1) ls (vi v :: st) h Q) : Wp b mi pc ls (vi i :: vr k :: st) h Q := by
  subst hv
  exact Wp.step (by simp only [sx, hf, sxi, iald, nxt]; rw [if_pos ⟨hk.1, hi.1, by rw [hk.2]; exact hi.2⟩]) K
theorem r_saload {i : Int} (hf : zfetch mi pc = some (.iaload, 1, x, y, z, c)) (hi : 0 ≤ i ∧ i < h 1001 0) (K : Wp b mi (pc + 1) ls (vi (h 1000 i.toNat) :: st) h Q) : Wp b mi pc ls (vi i :: vr 1000 :: st) h Q := Wp.step (by simp only [sx, hf, sxi, iald, nxt]; rw [if_neg (fun q => absurd q.1 (by decide)), if_pos ⟨trivial, hi⟩]) K
theorem r_baload {k n : Nat} {i v : Int} (hf : zfetch mi pc = some (.baload, 1, x, y, z, c)) (hk : zck k = 22 ∧ zcn k = n) (hi : 0 ≤ i ∧ i < n) (hv : h k i.toNat = v) (K : Wp b mi (pc + 1) ls (vi v :: st) h Q) : Wp b mi pc ls (vi i :: vr k :: st) h Q := by
  subst hv
  exact Wp.step (by simp only [sx, hf, sxi, bald, nxt]; rw [if_pos ⟨hk.1, hi.1, by rw [hk.2]; exact hi.2⟩]) K
theorem r_laload {k n : Nat} {i v : Int} (hf : zfetch mi pc = some (.laload, 1, x, y, z, c)) (hk : zck k = 21 ∧ zcn k = n) (hi : 0 ≤ i ∧ i < n) (hv : h k i.toNat = v) (K : Wp b mi (pc + 1) ls (vj v :: st) h Q) : Wp b mi pc ls (vi i :: vr k :: st) h Q := by
  subst hv
  exact Wp.step (by simp only [sx, hf, sxi, jald, nxt]; rw [if_pos ⟨hk.1, hi.1, by rw [hk.2]; exact hi.2⟩]) K
theorem r_aaload {k n q : Nat} {i : Int} (hf : zfetch mi pc = some (.aaload, 1, x, y, z, c)) (hk : (zck k = 23 ∨ zck k = 24) ∧ zcn k = n) (hi : 0 ≤ i ∧ i < n) (hb : b = true ∨ h k i.toNat = 1) (hq : zrb k + 14 * i.toNat = q) (K : Wp b mi (pc + 1) ls (vr q :: st) h Q) : Wp b mi pc ls (vi i :: vr k :: st) h Q := by
  subst hq
  exact Wp.step (by simp only [sx, hf, sxi, aald, nxt]; rw [if_pos ⟨hk.1, hi.1, by rw [hk.2]; exact hi.2, hb⟩]) K
theorem r_iastore {k n : Nat} {i v : Int} (hf : zfetch mi pc = some (.iastore, 1, x, y, z, c)) (hk : zck k = 20 ∧ zcn k = n) (hi : 0 ≤ i ∧ i < n) (K : Wp b mi (pc + 1) ls st (hs h k i.toNat v) Q) : Wp b mi pc ls (vi v :: vi i :: vr k :: st) h Q := Wp.step (by simp only [sx, hf, sxi, iast, nxt]; rw [if_pos ⟨hk.1, hi.1, by rw [hk.2]; exact hi.2⟩]) K
theorem r_bastore {k n : Nat} {i v : Int} (hf : zfetch mi pc = some (.bastore, 1, x, y, z, c)) (hk : zck k = 22 ∧ zcn k = n) (hi : 0 ≤ i ∧ i < n) (hv : -128 ≤ v ∧ v ≤ 127) (K : Wp b mi (pc + 1) ls st (hs h k i.toNat v) Q) : Wp b mi pc ls (vi v :: vi i :: vr k :: st) h Q := Wp.step (by simp only [sx, hf, sxi, bast, nxt]; rw [if_pos ⟨hk.1, hi.1, by rw [hk.2]; exact hi.2, hv⟩]) K
theorem r_lastore {k n : Nat} {i v : Int} (hf : zfetch mi pc = some (.lastore, 1, x, y, z, c)) (hk : zck k = 21 ∧ zcn k = n) (hi : 0 ≤ i ∧ i < n) (K : Wp b mi (pc + 1) ls st (hs h k i.toNat v) Q) : Wp b mi pc ls (vj v :: vi i :: vr k :: st) h Q := Wp.step (by simp only [sx, hf, sxi, jast, nxt]; rw [if_pos ⟨hk.1, hi.1, by rw [hk.2]; exact hi.2⟩]) K
theorem r_aastore {k n q : Nat} {i : Int} (hf : zfetch mi pc = some (.aastore, 1, x, y, z, c)) (hb : b = false) (hk : ((zck k = 23 ∧ zck q = 3) ∨ (zck k = 24 ∧ zck q = 7)) ∧ zcn k = n) (hi : 0 ≤ i ∧ i < n) (hq : q = zrb k + 14 * i.toNat) (K : Wp b mi (pc + 1) ls st (hs h k i.toNat 1) Q) : Wp b mi pc ls (vr q :: vi i :: vr k :: st) h Q := Wp.step (by simp only [sx, hf, sxi, aast, nxt]; rw [if_pos ⟨hb, hk.1, hi.1, by rw [hk.2]; exact hi.2, hq⟩]) K
theorem r_alen {k : Nat} {v : Int} (hf : zfetch mi pc = some (.arraylength, 1, x, y, z, c)) (hk : zck k = 20 ∨ zck k = 21 ∨ zck k = 22) (hv : ((zcn k : Nat) : Int) = v) (K : Wp b mi (pc + 1) ls (vi v :: st) h Q) : Wp b mi pc ls (vr k :: st) h Q := by
  subst hv
  exact Wp.step (by simp only [sx, hf, sxi, alen, nxt]; rw [if_pos hk]) K
theorem r_slen (hf : zfetch mi pc = some (.arraylength, 1, x, y, z, c)) (K : Wp b mi (pc + 1) ls (vi (h 1001 0) :: st) h Q) : Wp b mi pc ls (vr 1000 :: st) h Q := Wp.step (by simp only [sx, hf, sxi, alen, nxt]; rw [if_neg (by decide), if_pos trivial]) K
theorem r_geti {k idx : Nat} {v : Int} (hf : zfetch mi pc = some (.getfield idx, 3, x, y, z, c)) (hk : zck k = x) (hx : zfk (64 * x + y) = 0 ∨ zfk (64 * x + y) = 3) (hv : h k y = v) (K : Wp b mi (pc + 3) ls (vi v :: st) h Q) : Wp b mi pc ls (vr k :: st) h Q := by
  subst hv
  exact Wp.step (by simp only [sx, hf, sxi, iget, nxt]; rw [if_pos hk, if_pos hx]) K
theorem r_getj {k idx : Nat} {v : Int} (hf : zfetch mi pc = some (.getfield idx, 3, x, y, z, c)) (hk : zck k = x) (hx : zfk (64 * x + y) = 1) (hv : h k y = v) (K : Wp b mi (pc + 3) ls (vj v :: st) h Q) : Wp b mi pc ls (vr k :: st) h Q := by
  subst hv
  exact Wp.step (by simp only [sx, hf, sxi, iget, nxt]; rw [if_pos hk, if_neg (by omega), if_pos hx]) K
theorem r_getr {k q idx : Nat} (hf : zfetch mi pc = some (.getfield idx, 3, x, y, z, c)) (hk : zck k = x) (hx : zfk (64 * x + y) = 4) (hb : b = true ∨ h k y = 1) (hq : k + zfo (64 * x + y) = q) (K : Wp b mi (pc + 3) ls (vr q :: st) h Q) : Wp b mi pc ls (vr k :: st) h Q := by
  subst hq
  exact Wp.step (by simp only [sx, hf, sxi, iget, nxt]; rw [if_pos hk, if_neg (by omega), if_neg (by omega), if_pos ⟨hx, hb⟩]) K
theorem r_puti {k idx : Nat} {v : Int} (hf : zfetch mi pc = some (.putfield idx, 3, x, y, z, c)) (hk : zck k = x) (hx : zfk (64 * x + y) = 0) (K : Wp b mi (pc + 3) ls st (hs h k y v) Q) : Wp b mi pc ls (vi v :: vr k :: st) h Q := Wp.step (by simp only [sx, hf, sxi, iput, nxt]; rw [if_pos ⟨hk, Or.inl hx⟩]) K
theorem r_putz {k idx : Nat} {v : Int} (hf : zfetch mi pc = some (.putfield idx, 3, x, y, z, c)) (hk : zck k = x) (hx : zfk (64 * x + y) = 3) (hv : v = 0 ∨ v = 1) (K : Wp b mi (pc + 3) ls st (hs h k y v) Q) : Wp b mi pc ls (vi v :: vr k :: st) h Q := Wp.step (by simp only [sx, hf, sxi, iput, nxt]; rw [if_pos ⟨hk, Or.inr ⟨hx, hv⟩⟩]) K
theorem r_putj {k idx : Nat} {v : Int} (hf : zfetch mi pc = some (.putfield idx, 3, x, y, z, c)) (hk : zck k = x) (hx : zfk (64 * x + y) = 1) (K : Wp b mi (pc + 3) ls st (hs h k y v) Q) : Wp b mi pc ls (vj v :: vr k :: st) h Q := Wp.step (by simp only [sx, hf, sxi, iput, nxt]; rw [if_pos ⟨hk, hx⟩]) K
theorem r_putr {k q idx : Nat} (hf : zfetch mi pc = some (.putfield idx, 3, x, y, z, c)) (hk : zck k = x) (hx : zfk (64 * x + y) = 4) (hb : b = false) (hi : zmI mi = true ∧ zmK mi = x) (hq : q = k + zfo (64 * x + y)) (K : Wp b mi (pc + 3) ls st (hs h k y 1) Q) : Wp b mi pc ls (vr q :: vr k :: st) h Q := Wp.step (by simp only [sx, hf, sxi, iput, nxt]; rw [if_pos ⟨hk, hx, hb, hi.1, hi.2, hq⟩]) K
theorem r_goto {off : Int} {t : Nat} (hf : zfetch mi pc = some (.goto off, 3, x, y, z, c)) (ht : jmp pc off = t) (K : Wp b mi t ls st h Q) : Wp b mi pc ls st h Q := by
  subst ht
  exact Wp.step (by simp only [sx, hf, sxi, nxt]) K
theorem r_br {cd : ClassFile.Cond} {off v : Int} {t : Nat} {P : Prop} (hf : zfetch mi pc = some (.ifCond cd off, 3, x, y, z, c)) (ht : jmp pc off = t) (hP : cmpb cd v 0 = true ↔ P) (kt : P → Wp b mi t ls st h Q) (kf : ¬ P → Wp b mi (pc + 3) ls st h Q) : Wp b mi pc ls (vi v :: st) h Q := by
  subst ht
  by_cases hp : P
  · exact Wp.step (by simp only [sx, hf, sxi, ibr, nxt]; rw [if_pos (hP.mpr hp)]) (kt hp)
  · exact Wp.step (by simp only [sx, hf, sxi, ibr, nxt]; rw [if_neg (fun q => hp (hP.mp q))]) (kf hp)
theorem r_br2 {cd : ClassFile.Cond} {off v w : Int} {t : Nat} {P : Prop} (hf : zfetch mi pc = some (.if_icmp cd off, 3, x, y, z, c)) (ht : jmp pc off = t) (hP : cmpb cd v w = true ↔ P) (kt : P → Wp b mi t ls st h Q) (kf : ¬ P → Wp b mi (pc + 3) ls st h Q) : Wp b mi pc ls (vi w :: vi v :: st) h Q := by
  subst ht
  by_cases hp : P
  · exact Wp.step (by simp only [sx, hf, sxi, ibr2, nxt]; rw [if_pos (hP.mpr hp)]) (kt hp)
  · exact Wp.step (by simp only [sx, hf, sxi, ibr2, nxt]; rw [if_neg (fun q => hp (hP.mp q))]) (kf hp)
theorem cb_eq {v w : Int} : cmpb .eq v w = true ↔ v = w := by simp [cmpb]
theorem cb_ne {v w : Int} : cmpb .ne v w = true ↔ ¬ v = w := by simp [cmpb]
theorem cb_lt {v w : Int} : cmpb .lt v w = true ↔ v < w := by simp [cmpb]
theorem cb_ge {v w : Int} : cmpb .ge v w = true ↔ w ≤ v := by simp [cmpb]
theorem cb_gt {v w : Int} : cmpb .gt v w = true ↔ w < v := by simp [cmpb]
theorem cb_le {v w : Int} : cmpb .le v w = true ↔ v ≤ w := by simp [cmpb]
theorem lc_eq {v w : Int} : cmpb .eq (o_lcmp v w) 0 = true ↔ v = w := by
  unfold o_lcmp cmpb; simp only [decide_eq_true_eq]; split <;> (try split) <;> omega
theorem lc_ne {v w : Int} : cmpb .ne (o_lcmp v w) 0 = true ↔ ¬ v = w := by
  unfold o_lcmp cmpb; simp only [decide_eq_true_eq]; split <;> (try split) <;> omega
theorem lc_lt {v w : Int} : cmpb .lt (o_lcmp v w) 0 = true ↔ v < w := by
  unfold o_lcmp cmpb; simp only [decide_eq_true_eq]; split <;> (try split) <;> omega
theorem lc_ge {v w : Int} : cmpb .ge (o_lcmp v w) 0 = true ↔ w ≤ v := by
  unfold o_lcmp cmpb; simp only [decide_eq_true_eq]; split <;> (try split) <;> omega
theorem lc_gt {v w : Int} : cmpb .gt (o_lcmp v w) 0 = true ↔ w < v := by
  unfold o_lcmp cmpb; simp only [decide_eq_true_eq]; split <;> (try split) <;> omega
theorem lc_le {v w : Int} : cmpb .le (o_lcmp v w) 0 = true ↔ v ≤ w := by
  unfold o_lcmp cmpb; simp only [decide_eq_true_eq]; split <;> (try split) <;> omega
theorem r_swi {d lo hi off v : Int} {offs : Array Int} {t len : Nat} (hf : zfetch mi pc = some (.tableswitch d lo hi offs, len, x, y, z, c)) (w : Int) (hw : v = w) (hi2 : ¬ (w < lo ∨ hi < w)) (ho : offs[(w - lo).toNat]? = some off) (ht : jmp pc off = t) (K : Wp b mi t ls st h Q) : Wp b mi pc ls (vi v :: st) h Q := by
  subst ht
  subst hw
  exact Wp.step (by simp only [sx, hf, sxi, isw, nxt]; rw [if_neg hi2, ho]) K
theorem r_swo {d lo hi v : Int} {offs : Array Int} {t len : Nat} (hf : zfetch mi pc = some (.tableswitch d lo hi offs, len, x, y, z, c)) (ho : v < lo ∨ hi < v) (ht : jmp pc d = t) (K : Wp b mi t ls st h Q) : Wp b mi pc ls (vi v :: st) h Q := by
  subst ht
  exact Wp.step (by simp only [sx, hf, sxi, isw, nxt]; rw [if_pos ho]) K
theorem r_lki {d v : Int} {ps : Array (Int × Int)} {t len : Nat} (hf : zfetch mi pc = some (.lookupswitch d ps, len, x, y, z, c)) (ht : jmp pc (Op.lookupswitch.offset ps.toList d v) = t) (K : Wp b mi t ls st h Q) : Wp b mi pc ls (vi v :: st) h Q := by
  subst ht
  exact Wp.step (by simp only [sx, hf, sxi, ilk, nxt]) K
theorem r_dupi {v : Int} (hf : zfetch mi pc = some (.dup, 1, x, y, z, c)) (K : Wp b mi (pc + 1) ls (vi v :: vi v :: st) h Q) : Wp b mi pc ls (vi v :: st) h Q := Wp.step (by simp only [sx, hf, sxi, idup, nxt]) K
theorem r_dupr {v : Nat} (hf : zfetch mi pc = some (.dup, 1, x, y, z, c)) (K : Wp b mi (pc + 1) ls (vr v :: vr v :: st) h Q) : Wp b mi pc ls (vr v :: st) h Q := Wp.step (by simp only [sx, hf, sxi, idup, nxt]) K
theorem r_dup2j {v : Int} (hf : zfetch mi pc = some (.dup2, 1, x, y, z, c)) (K : Wp b mi (pc + 1) ls (vj v :: vj v :: st) h Q) : Wp b mi pc ls (vj v :: st) h Q := Wp.step (by simp only [sx, hf, sxi, idup2, nxt]) K
theorem r_dup2ii {v w : Int} (hf : zfetch mi pc = some (.dup2, 1, x, y, z, c)) (K : Wp b mi (pc + 1) ls (vi v :: vi w :: vi v :: vi w :: st) h Q) : Wp b mi pc ls (vi v :: vi w :: st) h Q := Wp.step (by simp only [sx, hf, sxi, idup2, nxt]) K
theorem r_dup2ir {v : Int} {w : Nat} (hf : zfetch mi pc = some (.dup2, 1, x, y, z, c)) (K : Wp b mi (pc + 1) ls (vi v :: vr w :: vi v :: vr w :: st) h Q) : Wp b mi pc ls (vi v :: vr w :: st) h Q := Wp.step (by simp only [sx, hf, sxi, idup2, nxt]) K
theorem r_popi {v : Int} (hf : zfetch mi pc = some (.pop, 1, x, y, z, c)) (K : Wp b mi (pc + 1) ls st h Q) : Wp b mi pc ls (vi v :: st) h Q := Wp.step (by simp only [sx, hf, sxi, ipop, nxt]) K
theorem r_popr {v : Nat} (hf : zfetch mi pc = some (.pop, 1, x, y, z, c)) (K : Wp b mi (pc + 1) ls st h Q) : Wp b mi pc ls (vr v :: st) h Q := Wp.step (by simp only [sx, hf, sxi, ipop, nxt]) K
theorem r_reti {v : Int} (hf : zfetch mi pc = some (.ireturn, 1, x, y, z, c)) (ht : zmT mi = 1) (K : Q (some (vi v)) h) : Wp b mi pc ls [vi v] h Q := Wp.ret (by simp only [sx, hf, sxi, iret]; rw [if_pos (Or.inl ht)]) K
theorem r_retz {v : Int} (hf : zfetch mi pc = some (.ireturn, 1, x, y, z, c)) (ht : zmT mi = 3) (hv : v = 0 ∨ v = 1) (K : Q (some (vi v)) h) : Wp b mi pc ls [vi v] h Q := Wp.ret (by simp only [sx, hf, sxi, iret]; rw [if_pos (Or.inr ⟨ht, hv⟩)]) K
theorem r_retj {v : Int} (hf : zfetch mi pc = some (.lreturn, 1, x, y, z, c)) (ht : zmT mi = 2) (K : Q (some (vj v)) h) : Wp b mi pc ls [vj v] h Q := Wp.ret (by simp only [sx, hf, sxi, jret]; rw [if_pos ht]) K
theorem r_retv (hf : zfetch mi pc = some (.return_, 1, x, y, z, c)) (ht : zmT mi = 0) (K : Q none h) : Wp b mi pc ls [] h Q := Wp.ret (by simp only [sx, hf, sxi, vret]; rw [if_pos ht]) K
theorem icall_s {as st' : List AV} (hx : st = as.reverse ++ st') (hn : as.length = zmA x) (hc : (st'.map acat).sum ≤ 8) (hl : (lay as).length ≤ zmL x) (hk : (y = 1 ∨ y = 4) ∨ ∃ (k : Nat) (as' : List AV), as = vr k :: as' ∧ zck k = zmK x) : icall st x y pc = some (.inr (.inr (x, as, st'))) := by
  have e1 : st.take (zmA x) = as.reverse := by rw [hx, ← hn, ← List.length_reverse]; simp
  have e2 : st.drop (zmA x) = st' := by rw [hx, ← hn, ← List.length_reverse]; simp
  have e3 : zmA x ≤ st.length := by rw [hx]; simp; omega
  unfold icall
  rw [e1, e2, List.reverse_reverse, if_pos ⟨e3, hc, hl⟩]
  by_cases hy : y = 1 ∨ y = 4
  · rw [if_pos hy]
  · rw [if_neg hy]
    obtain ⟨k, as', rfl, hk2⟩ := hk.resolve_left hy
    exact if_pos hk2
theorem r_callv {idx : Nat} {as st' ls0 : List AV} (hf : zfetch mi pc = some (.invokevirtual idx, 3, x, y, z, c)) (hx : x < 1000) (hs : st = as.reverse ++ st') (hn : as.length = zmA x) (hc : (st'.map acat).sum ≤ 8) (hl : (lay as).length ≤ zmL x) (hk : ∃ (k : Nat) (as' : List AV), as = vr k :: as' ∧ zck k = zmK x) (he : zent x as = ls0)
    (K : Wp b x 0 ls0 [] h (fun r h' => Wp b mi (pc + 3) ls (r.toList ++ st') h' Q)) : Wp b mi pc ls st h Q := by
  subst he
  exact Wp.call (by simp only [sx, hf, sxi, iinv]; rw [if_pos hx]; exact icall_s hs hn hc hl (Or.inr hk)) K
theorem r_calls {idx : Nat} {as st' ls0 : List AV} (hf : zfetch mi pc = some (.invokestatic idx, 3, x, y, z, c)) (hx : x < 1000) (hy : y = 1 ∨ y = 4) (hs : st = as.reverse ++ st') (hn : as.length = zmA x) (hc : (st'.map acat).sum ≤ 8) (hl : (lay as).length ≤ zmL x) (he : zent x as = ls0)
    (K : Wp b x 0 ls0 [] h (fun r h' => Wp b mi (pc + 3) ls (r.toList ++ st') h' Q)) : Wp b mi pc ls st h Q := by
  subst he
  exact Wp.call (by simp only [sx, hf, sxi, iinv]; rw [if_pos hx]; exact icall_s hs hn hc hl (Or.inl hy)) K
theorem r_calli {idx : Nat} {as st' ls0 : List AV} (hf : zfetch mi pc = some (.invokespecial idx, 3, x, y, z, c)) (hx : x < 1000) (hs : st = as.reverse ++ st') (hn : as.length = zmA x) (hc : (st'.map acat).sum ≤ 8) (hl : (lay as).length ≤ zmL x) (hk : ∃ (k : Nat) (as' : List AV), as = vr k :: as' ∧ zck k = zmK x) (he : zent x as = ls0)
    (K : Wp b x 0 ls0 [] h (fun r h' => Wp b mi (pc + 3) ls (r.toList ++ st') h' Q)) : Wp b mi pc ls st h Q := by
  subst he
  exact Wp.call (by simp only [sx, hf, sxi, iinv]; rw [if_pos hx]; exact icall_s hs hn hc hl (Or.inr hk)) K
theorem r_copy {idx ka kb na nb : Nat} {n dp sp : Int} (hf : zfetch mi pc = some (.invokestatic idx, 3, 1000, y, z, c)) (hk : zck ka = zck kb ∧ (zck ka = 20 ∨ zck ka = 21)) (hn : zcn ka = na ∧ zcn kb = nb) (hi : 0 ≤ n ∧ 0 ≤ sp ∧ 0 ≤ dp ∧ sp + n ≤ na ∧ dp + n ≤ nb) (hc : (st.map acat).sum ≤ 8) (K : Wp b mi (pc + 3) ls st (cpy h ka sp.toNat kb dp.toNat n.toNat) Q) : Wp b mi pc ls (vi n :: vi dp :: vr kb :: vi sp :: vr ka :: st) h Q := Wp.step (by
  simp only [sx, hf, sxi, iinv, nxt]
  rw [if_neg (by omega), if_pos trivial, if_pos ⟨hk.1, hk.2, hi.1, hi.2.1, hi.2.2.1, by rw [hn.1]; exact hi.2.2.2.1, by rw [hn.2]; exact hi.2.2.2.2, hc⟩]) K
theorem r_objInit {idx k : Nat} (hf : zfetch mi pc = some (.invokespecial idx, 3, 1001, y, z, c)) (hc : (st.map acat).sum ≤ 8) (K : Wp b mi (pc + 3) ls st h Q) : Wp b mi pc ls (vr k :: st) h Q := Wp.step (by simp only [sx, hf, sxi, iinv, nxt]; rw [if_neg (by omega), if_neg (by omega), if_pos trivial, if_pos hc]) K
theorem r_charAt {idx q : Nat} {i : Int} (hf : zfetch mi pc = some (.invokevirtual idx, 3, 1002, y, z, c)) (hi : 0 ≤ i ∧ i < (zstr q).length) (hc : (st.map acat).sum ≤ 8) (K : Wp b mi (pc + 3) ls (vi ((zstr q).getD i.toNat 0) :: st) h Q) : Wp b mi pc ls (vi i :: vr q :: st) h Q := Wp.step (by simp only [sx, hf, sxi, iinv, nxt]; rw [if_neg (by omega), if_neg (by omega), if_neg (by omega), if_pos trivial, if_pos ⟨hi.1, hi.2, hc⟩]) K
theorem r_length {idx q : Nat} {v : Int} (hf : zfetch mi pc = some (.invokevirtual idx, 3, 1003, y, z, c)) (hq : q = 2000 ∨ q = 2001) (hv : (((zstr q).length : Nat) : Int) = v) (hc : (st.map acat).sum ≤ 8) (K : Wp b mi (pc + 3) ls (vi v :: st) h Q) : Wp b mi pc ls (vr q :: st) h Q := by
  subst hv
  exact Wp.step (by simp only [sx, hf, sxi, iinv, nxt]; rw [if_neg (by omega), if_neg (by omega), if_neg (by omega), if_neg (by omega), if_pos trivial, if_pos ⟨hq, hc⟩]) K
theorem r_new {idx a : Nat} (hf : zfetch mi pc = some (.new idx, 3, x, y, z, c)) (hb : b = false) (ha : h 1002 0 = (a : Int)) (hx : x < 20 ∧ zck a = x ∧ a < zK) (K : Wp b mi (pc + 3) ls (vr a :: st) (hs h 1002 0 ((a + 1 : Nat) : Int)) Q) : Wp b mi pc ls st h Q := by
  have e : zal h = a := by unfold zal; rw [ha]; simp
  exact Wp.step (by simp only [sx, hf, sxi, inew, nxt, e]; rw [if_pos ⟨hb, hx.1, hx.2.1, hx.2.2⟩]) K
theorem r_newi {a : Nat} {n : Int} (hf : zfetch mi pc = some (.newarray .int, 2, x, y, z, c)) (hb : b = false) (ha : h 1002 0 = (a : Int)) (hx : zck a = 20 ∧ a < zK ∧ n = (zcn a : Nat)) (K : Wp b mi (pc + 2) ls (vr a :: st) (hs h 1002 0 ((a + 1 : Nat) : Int)) Q) : Wp b mi pc ls (vi n :: st) h Q := by
  have e : zal h = a := by unfold zal; rw [ha]; simp
  exact Wp.step (by simp only [sx, hf, sxi, inewa, nxt, e]; rw [if_pos ⟨hb, hx⟩]) K
theorem r_newj {a : Nat} {n : Int} (hf : zfetch mi pc = some (.newarray .long, 2, x, y, z, c)) (hb : b = false) (ha : h 1002 0 = (a : Int)) (hx : zck a = 21 ∧ a < zK ∧ n = (zcn a : Nat)) (K : Wp b mi (pc + 2) ls (vr a :: st) (hs h 1002 0 ((a + 1 : Nat) : Int)) Q) : Wp b mi pc ls (vi n :: st) h Q := by
  have e : zal h = a := by unfold zal; rw [ha]; simp
  exact Wp.step (by simp only [sx, hf, sxi, inewa, nxt, e]; rw [if_pos ⟨hb, hx⟩]) K
theorem r_newb {a : Nat} {n : Int} (hf : zfetch mi pc = some (.newarray .byte, 2, x, y, z, c)) (hb : b = false) (ha : h 1002 0 = (a : Int)) (hx : zck a = 22 ∧ a < zK ∧ n = (zcn a : Nat)) (K : Wp b mi (pc + 2) ls (vr a :: st) (hs h 1002 0 ((a + 1 : Nat) : Int)) Q) : Wp b mi pc ls (vi n :: st) h Q := by
  have e : zal h = a := by unfold zal; rw [ha]; simp
  exact Wp.step (by simp only [sx, hf, sxi, inewa, nxt, e]; rw [if_pos ⟨hb, hx⟩]) K
theorem r_newq {a idx : Nat} {n : Int} (hf : zfetch mi pc = some (.anewarray idx, 3, x, y, z, c)) (hb : b = false) (ha : h 1002 0 = (a : Int)) (hx : ((x = 3 ∧ zck a = 23) ∨ (x = 7 ∧ zck a = 24)) ∧ a < zK ∧ n = (zcn a : Nat)) (K : Wp b mi (pc + 3) ls (vr a :: st) (hs h 1002 0 ((a + 1 : Nat) : Int)) Q) : Wp b mi pc ls (vi n :: st) h Q := by
  have e : zal h = a := by unfold zal; rw [ha]; simp
  rcases hx with ⟨⟨rfl, h1⟩ | ⟨rfl, h1⟩, h2⟩
  · exact Wp.step (by simp only [sx, hf, sxi, inewa, nxt, e]; rw [if_pos trivial, if_pos ⟨hb, h1, h2⟩]) K
  · exact Wp.step (by simp only [sx, hf, sxi, inewa, nxt, e]; rw [if_neg (by omega), if_pos trivial, if_pos ⟨hb, h1, h2⟩]) K
end RU
/-! cells of a Floor, of Talks -/
def isF (f : Nat) : Prop := f = 10 ∨ f = 18 ∨ f = 40 ∨ f = 54 ∨ f = 68
def isT (t : Nat) : Prop := t = 26 ∨ t = 32 ∨ t = 48 ∨ t = 62 ∨ t = 76
theorem F_n {f : Nat} (h : isF f) : f ≠ 9999 := by unfold isF at h; omega
theorem T_n {f : Nat} (h : isT f) : f ≠ 9999 := by unfold isT at h; omega
theorem F_k {f : Nat} (h : isF f) : zck f = 3 := by rcases h with rfl | rfl | rfl | rfl | rfl <;> rfl
theorem F_1 {f : Nat} (h : isF f) : zck (f + 1) = 20 ∧ zcn (f + 1) = 2 := by rcases h with rfl | rfl | rfl | rfl | rfl <;> exact ⟨rfl, rfl⟩
theorem F_2 {f : Nat} (h : isF f) : zck (f + 2) = 20 ∧ zcn (f + 2) = 7 := by rcases h with rfl | rfl | rfl | rfl | rfl <;> exact ⟨rfl, rfl⟩
theorem F_3 {f : Nat} (h : isF f) : zck (f + 3) = 21 ∧ zcn (f + 3) = 10 := by rcases h with rfl | rfl | rfl | rfl | rfl <;> exact ⟨rfl, rfl⟩
theorem F_4 {f : Nat} (h : isF f) : zck (f + 4) = 20 ∧ zcn (f + 4) = 10 := by rcases h with rfl | rfl | rfl | rfl | rfl <;> exact ⟨rfl, rfl⟩
theorem F_5 {f : Nat} (h : isF f) : zck (f + 5) = 20 ∧ zcn (f + 5) = 10 := by rcases h with rfl | rfl | rfl | rfl | rfl <;> exact ⟨rfl, rfl⟩
theorem F_6 {f : Nat} (h : isF f) : zck (f + 6) = 20 ∧ zcn (f + 6) = 20 := by rcases h with rfl | rfl | rfl | rfl | rfl <;> exact ⟨rfl, rfl⟩
theorem F_7 {f : Nat} (h : isF f) : zck (f + 7) = 20 ∧ zcn (f + 7) = 10 := by rcases h with rfl | rfl | rfl | rfl | rfl <;> exact ⟨rfl, rfl⟩
theorem T_k {t : Nat} (h : isT t) : zck t = 7 := by rcases h with rfl | rfl | rfl | rfl | rfl <;> rfl
theorem T_1 {t : Nat} (h : isT t) : zck (t + 1) = 20 ∧ zcn (t + 1) = 60 := by rcases h with rfl | rfl | rfl | rfl | rfl <;> exact ⟨rfl, rfl⟩
theorem T_2 {t : Nat} (h : isT t) : zck (t + 2) = 20 ∧ zcn (t + 2) = 60 := by rcases h with rfl | rfl | rfl | rfl | rfl <;> exact ⟨rfl, rfl⟩
theorem T_3 {t : Nat} (h : isT t) : zck (t + 3) = 20 ∧ zcn (t + 3) = 60 := by rcases h with rfl | rfl | rfl | rfl | rfl <;> exact ⟨rfl, rfl⟩
theorem T_4 {t : Nat} (h : isT t) : zck (t + 4) = 20 ∧ zcn (t + 4) = 60 := by rcases h with rfl | rfl | rfl | rfl | rfl <;> exact ⟨rfl, rfl⟩
theorem T_5 {t : Nat} (h : isT t) : zck (t + 5) = 20 ∧ zcn (t + 5) = 60 := by rcases h with rfl | rfl | rfl | rfl | rfl <;> exact ⟨rfl, rfl⟩
