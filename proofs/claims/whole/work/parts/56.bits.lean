/-! ===== a long by its bits ===== -/
def btL (m : Int) (k : Nat) : Bool := (Int64.ofInt m).toBitVec.getLsbD k
theorem bL_0 (k : Nat) : btL 0 k = false := BitVec.getLsbD_zero
theorem bL_1 : ∀ k, k < 64 → btL 1 k = decide (k = 0) := by decide +kernel
theorem bL_or (x y : Int) (k : Nat) : btL (o_lor x y) k = (btL x k || btL y k) := by
  unfold btL o_lor
  rw [Int64.ofInt_toInt, Int64.toBitVec_or, BitVec.getLsbD_or]
theorem bL_sa : ∀ n : Nat, n < 64 → (((Int32.ofInt (n : Int)).toInt64 &&& 63).toBitVec.smod 64).toNat = n := by decide +kernel
theorem bL_su : ∀ n : Nat, n < 64 → (((Int32.ofInt (n : Int)).toInt64.toUInt64 &&& Int64.toUInt64 63).toBitVec % 64).toNat = n := by decide +kernel
theorem bL_shl {x : Int} {n k : Nat} (hn : n < 64) (hk : k < 64) : btL (o_lshl x n) k = (decide (n ≤ k) && btL x (k - n)) := by
  unfold btL o_lshl
  rw [Int64.ofInt_toInt, Int64.toBitVec_shiftLeft]
  show ((Int64.ofInt x).toBitVec <<< (((Int32.ofInt (n : Int)).toInt64 &&& 63).toBitVec.smod 64).toNat).getLsbD k = _
  rw [bL_sa n hn, BitVec.getLsbD_shiftLeft]
  rcases Nat.lt_or_ge k n with h | h
  · simp [h, Nat.not_le.mpr h]
  · simp [hk, h, Nat.not_lt.mpr h]
theorem bL_and1 (v : Int64) : (v &&& Int64.ofInt 1).toInt = (if v.toBitVec.getLsbD 0 = true then 1 else 0) := by
  have e : v &&& Int64.ofInt 1 = if v.toBitVec.getLsbD 0 = true then 1 else 0 := by
    rw [← Int64.toBitVec_inj, Int64.toBitVec_and]
    apply BitVec.eq_of_getLsbD_eq
    intro i hi
    have h1 : (Int64.ofInt 1).toBitVec = 1#64 := rfl
    rw [BitVec.getLsbD_and, h1]
    by_cases h : v.toBitVec.getLsbD 0 = true
    · rw [if_pos h]
      show _ = (1#64).getLsbD i
      cases i with
      | zero => simp at h; simp [h]
      | succ i => simp
    · rw [if_neg h]
      show _ = (0#64).getLsbD i
      cases i with
      | zero => simp at h; simp [h]
      | succ i => simp
  rw [e]
  split <;> rfl
theorem bL_shr {x : Int} {n : Nat} (hn : n < 64) : o_land (o_lshr x n) 1 = if btL x n = true then 1 else 0 := by
  unfold o_land o_lshr btL
  rw [Int64.ofInt_toInt, bL_and1, Int64.toBitVec_shiftRight]
  show (if (((Int64.ofInt x).toBitVec.sshiftRight (((Int32.ofInt (n : Int)).toInt64 &&& 63).toBitVec.smod 64).toNat).getLsbD 0) = true then (1 : Int) else 0) = _
  rw [bL_sa n hn, BitVec.getLsbD_sshiftRight]
  simp [hn]
theorem bL_ush {x : Int} {n : Nat} (hn : n < 64) : o_land (o_lushr x n) 1 = if btL x n = true then 1 else 0 := by
  unfold o_land o_lushr btL
  rw [Int64.ofInt_toInt, bL_and1]
  show (if (((Int64.ofInt x).toUInt64 >>> ((Int32.ofInt (n : Int)).toInt64.toUInt64 &&& Int64.toUInt64 63)).toBitVec.getLsbD 0) = true then (1 : Int) else 0) = _
  rw [UInt64.toBitVec_shiftRight]
  show (if ((Int64.ofInt x).toUInt64.toBitVec >>> (((Int32.ofInt (n : Int)).toInt64.toUInt64 &&& Int64.toUInt64 63).toBitVec % 64).toNat).getLsbD 0 = true then (1 : Int) else 0) = _
  rw [bL_su n hn, BitVec.getLsbD_ushiftRight]
  rfl
theorem bL_shr0 {x : Int} {n : Nat} (hn : n < 64) : o_land (o_lshr x n) 1 = 0 ↔ btL x n = false := by
  rw [bL_shr hn]
  cases btL x n <;> simp
theorem bL_set {x : Int} {a k : Nat} (ha : a < 64) (hk : k < 64) : btL (o_lor x (o_lshl 1 a)) k = (btL x k || decide (k = a)) := by
  rw [bL_or, bL_shl ha hk]
  congr 1
  by_cases h : k = a
  · subst h
    rw [Nat.sub_self, bL_1 0 (by decide)]
    simp
  · rw [decide_eq_false h]
    by_cases h2 : a ≤ k
    · rw [bL_1 _ (by omega), decide_eq_false (show ¬ k - a = 0 by omega), Bool.and_false]
    · rw [decide_eq_false h2, Bool.false_and]
