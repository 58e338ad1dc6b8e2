/-! ===== Int32, Int64 and plain numbers ===== -/
theorem w32_bmod (z : Int) : w32 z = z.bmod (2 ^ 32) := by
  show w32 z = Int.bmod z 4294967296
  unfold w32 Int.bmod
  simp only []
  split <;> omega
theorem w64_bmod (z : Int) : w64 z = z.bmod (2 ^ 64) := by
  show w64 z = Int.bmod z 18446744073709551616
  unfold w64 Int.bmod
  simp only []
  split <;> omega
theorem w8_bmod (z : Int) : w8 z = z.bmod (2 ^ 8) := by
  show w8 z = Int.bmod z 256
  unfold w8 Int.bmod
  simp only []
  split <;> omega
theorem w16_bmod (z : Int) : w16 z = z.bmod (2 ^ 16) := by
  show w16 z = Int.bmod z 65536
  unfold w16 Int.bmod
  simp only []
  split <;> omega
theorem in32_w32 (z : Int) : in32 (w32 z) := by unfold in32 w32; omega
theorem in64_w64 (z : Int) : in64 (w64 z) := by unfold in64 w64; omega
theorem w32_id {z : Int} (h1 : -2147483648 ≤ z) (h2 : z ≤ 2147483647) : w32 z = z := by unfold w32; omega
theorem w64_id {z : Int} (h1 : -9223372036854775808 ≤ z) (h2 : z ≤ 9223372036854775807) : w64 z = z := by unfold w64; omega
theorem in32_toInt (x : Int32) : in32 x.toInt := by
  have h1 := Int32.le_toInt x
  have h2 := Int32.toInt_lt x
  unfold in32
  omega
theorem in64_toInt (x : Int64) : in64 x.toInt := by
  have h1 := Int64.le_toInt x
  have h2 := Int64.toInt_lt x
  unfold in64
  omega
theorem i32_t {z : Int} (h : in32 z) : (Int32.ofInt z).toInt = z := by
  obtain ⟨h1, h2⟩ := h
  rw [Int32.toInt_ofInt]
  show Int.bmod z (2 ^ 32) = z
  exact Int.bmod_eq_of_le (by omega) (by omega)
theorem i64_t {z : Int} (h : in64 z) : (Int64.ofInt z).toInt = z := by
  obtain ⟨h1, h2⟩ := h
  rw [Int64.toInt_ofInt]
  show Int.bmod z (2 ^ 64) = z
  exact Int.bmod_eq_of_le (by omega) (by omega)
theorem i32_w (z : Int) : Int32.ofInt (w32 z) = Int32.ofInt z := Int32.toInt_inj.1 (by rw [Int32.toInt_ofInt, Int32.toInt_ofInt, w32_bmod, Int.bmod_bmod])
theorem i64_w (z : Int) : Int64.ofInt (w64 z) = Int64.ofInt z := Int64.toInt_inj.1 (by rw [Int64.toInt_ofInt, Int64.toInt_ofInt, w64_bmod, Int.bmod_bmod])
theorem i32_lt {x y : Int} (hx : in32 x) (hy : in32 y) : Int32.ofInt x < Int32.ofInt y ↔ x < y := by rw [Int32.lt_iff_toInt_lt, i32_t hx, i32_t hy]
theorem i32_le {x y : Int} (hx : in32 x) (hy : in32 y) : Int32.ofInt x ≤ Int32.ofInt y ↔ x ≤ y := by rw [Int32.le_iff_toInt_le, i32_t hx, i32_t hy]
theorem i32_eq {x y : Int} (hx : in32 x) (hy : in32 y) : Int32.ofInt x = Int32.ofInt y ↔ x = y := by rw [← Int32.toInt_inj, i32_t hx, i32_t hy]
theorem i64_lt {x y : Int} (hx : in64 x) (hy : in64 y) : Int64.ofInt x < Int64.ofInt y ↔ x < y := by rw [Int64.lt_iff_toInt_lt, i64_t hx, i64_t hy]
theorem i64_eq {x y : Int} (hx : in64 x) (hy : in64 y) : Int64.ofInt x = Int64.ofInt y ↔ x = y := by rw [← Int64.toInt_inj, i64_t hx, i64_t hy]
theorem in32_0 : in32 0 := by unfold in32; omega
theorem i32_0 : Int32.ofInt 0 = 0 := rfl
theorem i32_add (x y : Int) : Int32.ofInt x + Int32.ofInt y = Int32.ofInt (w32 (x + y)) := by
  rw [i32_w]; apply Int32.toInt_inj.1; rw [Int32.toInt_add, Int32.toInt_ofInt, Int32.toInt_ofInt, Int32.toInt_ofInt]; simp
theorem i32_sub (x y : Int) : Int32.ofInt x - Int32.ofInt y = Int32.ofInt (w32 (x - y)) := by
  rw [i32_w]; apply Int32.toInt_inj.1; rw [Int32.toInt_sub, Int32.toInt_ofInt, Int32.toInt_ofInt, Int32.toInt_ofInt]; simp
theorem i32_mul (x y : Int) : Int32.ofInt x * Int32.ofInt y = Int32.ofInt (w32 (x * y)) := by
  rw [i32_w]; apply Int32.toInt_inj.1; rw [Int32.toInt_mul, Int32.toInt_ofInt, Int32.toInt_ofInt, Int32.toInt_ofInt]; simp
theorem i32_neg (x : Int) : -Int32.ofInt x = Int32.ofInt (w32 (-x)) := by
  rw [i32_w]; apply Int32.toInt_inj.1; rw [Int32.toInt_neg, Int32.toInt_ofInt, Int32.toInt_ofInt]; simp
theorem i32_div {x y : Int} (hx : in32 x) (hy : in32 y) : Int32.ofInt x / Int32.ofInt y = Int32.ofInt (w32 (Int.tdiv x y)) := by
  rw [i32_w]; apply Int32.toInt_inj.1; rw [Int32.toInt_div, i32_t hx, i32_t hy, Int32.toInt_ofInt]
theorem tmod_eq (x y : Int) : Int.tmod x y = x - Int.tdiv x y * y := by
  have := Int.tdiv_mul_add_tmod x y
  omega
theorem i32_rem {x y : Int} (hx : in32 x) (hy : in32 y) : Int32.ofInt x - Int32.ofInt x / Int32.ofInt y * Int32.ofInt y = Int32.ofInt (Int.tmod x y) := by
  rw [i32_div hx hy, i32_w, i32_mul, i32_w, i32_sub, i32_w, tmod_eq]
theorem in32_tmod {x y : Int} (hx : in32 x) (h0 : y ≠ 0) : in32 (Int.tmod x y) := by
  obtain ⟨h1, h2⟩ := hx
  have h3 : (Int.tmod x y).natAbs ≤ x.natAbs := by rw [Int.natAbs_tmod]; exact Nat.mod_le _ _
  have h4 : 0 ≤ x → 0 ≤ Int.tmod x y := fun q => Int.tmod_nonneg y q
  have h5 : x < 0 → Int.tmod x y ≤ 0 := fun q => by
    have h6 := Int.tmod_nonneg (a := -x) y (by omega)
    rw [Int.neg_tmod] at h6
    omega
  unfold in32
  omega
theorem i64_add (x y : Int) : Int64.ofInt x + Int64.ofInt y = Int64.ofInt (w64 (x + y)) := by
  rw [i64_w]; apply Int64.toInt_inj.1; rw [Int64.toInt_add, Int64.toInt_ofInt, Int64.toInt_ofInt, Int64.toInt_ofInt]; simp
theorem i64_sub (x y : Int) : Int64.ofInt x - Int64.ofInt y = Int64.ofInt (w64 (x - y)) := by
  rw [i64_w]; apply Int64.toInt_inj.1; rw [Int64.toInt_sub, Int64.toInt_ofInt, Int64.toInt_ofInt, Int64.toInt_ofInt]; simp
theorem i64_mul (x y : Int) : Int64.ofInt x * Int64.ofInt y = Int64.ofInt (w64 (x * y)) := by
  rw [i64_w]; apply Int64.toInt_inj.1; rw [Int64.toInt_mul, Int64.toInt_ofInt, Int64.toInt_ofInt, Int64.toInt_ofInt]; simp
theorem i64_div {x y : Int} (hx : in64 x) (hy : in64 y) : Int64.ofInt x / Int64.ofInt y = Int64.ofInt (w64 (Int.tdiv x y)) := by
  rw [i64_w]; apply Int64.toInt_inj.1; rw [Int64.toInt_div, i64_t hx, i64_t hy, Int64.toInt_ofInt]
theorem i64_rem {x y : Int} (hx : in64 x) (hy : in64 y) : Int64.ofInt x - Int64.ofInt x / Int64.ofInt y * Int64.ofInt y = Int64.ofInt (Int.tmod x y) := by
  rw [i64_div hx hy, i64_w, i64_mul, i64_w, i64_sub, i64_w, tmod_eq]
theorem in64_tmod {x y : Int} (hx : in64 x) (h0 : y ≠ 0) : in64 (Int.tmod x y) := by
  obtain ⟨h1, h2⟩ := hx
  have h3 : (Int.tmod x y).natAbs ≤ x.natAbs := by rw [Int.natAbs_tmod]; exact Nat.mod_le _ _
  have h4 : 0 ≤ x → 0 ≤ Int.tmod x y := fun q => Int.tmod_nonneg y q
  have h5 : x < 0 → Int.tmod x y ≤ 0 := fun q => by
    have h6 := Int.tmod_nonneg (a := -x) y (by omega)
    rw [Int.neg_tmod] at h6
    omega
  unfold in64
  omega
theorem i32_l {x : Int} (h : in32 x) : (Int32.ofInt x).toInt64 = Int64.ofInt x := by
  apply Int64.toInt_inj.1
  rw [Int32.toInt_toInt64, i32_t h, i64_t]
  obtain ⟨h1, h2⟩ := h
  unfold in64
  omega
theorem i64_i {x : Int} (h : in64 x) : (Int64.ofInt x).toInt32 = Int32.ofInt (w32 x) := by
  rw [i32_w]; apply Int32.toInt_inj.1
  rw [Int64.toInt_toInt32, i64_t h, Int32.toInt_ofInt]
theorem i32_b {x : Int} (h : in32 x) : (Int32.ofInt x).toInt8.toInt32 = Int32.ofInt (w8 x) := by
  apply Int32.toInt_inj.1
  rw [Int8.toInt_toInt32, Int32.toInt_toInt8, i32_t h, i32_t (by unfold in32 w8; omega), w8_bmod]
theorem i32_s {x : Int} (h : in32 x) : (Int32.ofInt x).toInt16.toInt32 = Int32.ofInt (w16 x) := by
  apply Int32.toInt_inj.1
  rw [Int16.toInt_toInt32, Int32.toInt_toInt16, i32_t h, i32_t (by unfold in32 w16; omega), w16_bmod]
theorem in32_w8 (z : Int) : in32 (w8 z) := by unfold in32 w8; omega
theorem in32_w16 (z : Int) : in32 (w16 z) := by unfold in32 w16; omega
theorem in64_of32 {z : Int} (h : in32 z) : in64 z := by unfold in32 at h; unfold in64; omega
theorem i32_cl {z : Int} (h : in32 z) : (Int32.ofInt z).toNatClampNeg = z.toNat := by
  show (Int32.ofInt z).toInt.toNat = z.toNat
  rw [i32_t h]
theorem i32_vin {z : Int} {n : Nat} (h : in32 z) (h0 : 0 ≤ z) (h1 : z < n) : vp_in (Int32.ofInt z) n := by
  rw [vp_in_iff, i32_t h]
  exact ⟨h0, h1⟩
theorem i32_nn {z : Int} (h : in32 z) (h0 : 0 ≤ z) : ¬ Int32.ofInt z < 0 := by
  rw [← i32_0, i32_lt h in32_0]
  omega
theorem in32_lcmp (x y : Int) : in32 (o_lcmp x y) := by unfold in32 o_lcmp; split <;> (try split) <;> omega
theorem i64_cmp {x y : Int} (hx : in64 x) (hy : in64 y) : lg_cmp (Int64.ofInt x) (Int64.ofInt y) = Int32.ofInt (o_lcmp x y) := by
  unfold lg_cmp o_lcmp
  simp only [gt_iff_lt, i64_lt hx hy, i64_lt hy hx, i64_eq hx hy]
  by_cases h1 : x < y
  · have h2 : ¬ y < x := by omega
    have h3 : ¬ x = y := by omega
    simp [h1, h2, h3]
    try rfl
  · by_cases h2 : x = y
    · subst h2
      simp
      try rfl
    · have h3 : y < x := by omega
      simp [h1, h2, h3]
      try rfl
