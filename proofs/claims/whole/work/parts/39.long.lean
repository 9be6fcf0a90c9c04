/-! Longs that are small whole numbers: own work. -/
theorem zl_i2l {x : Int} (h : ym_in x) : (ym_i2l x).toInt = x := by
  show ((Int32.ofInt x).toInt64).toInt = x
  rw [Int32.toInt_toInt64, ym_of h]
theorem zl_gt {x y : Int64} : 0 < ym_cmp x y ↔ y.toInt < x.toInt := by
  unfold ym_cmp
  rw [← Int64.lt_iff_toInt_lt]
  constructor
  · intro h
    split at h
    · assumption
    · split at h <;> omega
  · intro h
    rw [if_pos h]
    decide
theorem zl_lt {x y : Int64} : ym_cmp x y < 0 ↔ x.toInt < y.toInt := by
  unfold ym_cmp
  constructor
  · intro h
    split at h
    · omega
    · rename_i h1
      split at h
      · omega
      · rename_i h2
        have h1 : ¬ y < x := h1
        rw [Int64.lt_iff_toInt_lt] at h1
        have h2 : ¬ x.toInt = y.toInt := fun z => h2 (Int64.toInt_inj.mp z)
        omega
  · intro h
    have h1 : ¬ y < x := by rw [Int64.lt_iff_toInt_lt]; omega
    rw [if_neg h1, if_neg (fun z => by rw [z] at h; omega)]
    decide
theorem zl_eq {x y : Int64} : ym_cmp x y = 0 ↔ x.toInt = y.toInt := by
  have h1 := @zl_gt x y
  have h2 := @zl_lt x y
  omega
theorem zl_bv {x : Int64} {n : Nat} (h : x.toBitVec.toNat = n) (hn : n < 9223372036854775808) : x.toInt = (n : Int) := by
  show x.toBitVec.toInt = _
  rw [BitVec.toInt_eq_toNat_of_lt (by omega), h]
theorem zl_nat {x : Int64} (h : 0 ≤ x.toInt) : ∃ n : Nat, x.toInt = (n : Int) ∧ x.toBitVec.toNat = n ∧ n < 9223372036854775808 := by
  have h1 : 0 ≤ x.toBitVec.toInt := h
  refine ⟨x.toBitVec.toNat, ?_, rfl, ?_⟩
  · show x.toBitVec.toInt = _
    rw [BitVec.toInt_eq_toNat_cond] at h1 ⊢
    split at h1
    · rename_i h2
      rw [if_pos h2]
    · have := x.toBitVec.isLt
      omega
  · rw [BitVec.toInt_eq_toNat_cond] at h1
    have := x.toBitVec.isLt
    split at h1 <;> omega
theorem zl_shl8 (x : Int64) : (ym_lshl x 8).toBitVec = x.toBitVec <<< 8 := by
  show (x <<< ((Int32.ofInt 8).toInt64 &&& 63)).toBitVec = _
  rw [Int64.toBitVec_shiftLeft, BitVec.shiftLeft_eq']
  rfl
theorem zl_or8 {x : Int64} {t : Int} (h0 : 0 ≤ x.toInt) (h1 : x.toInt < 36028797018963967) (t0 : 0 ≤ t) (t1 : t < 256) : (ym_lshl x 8 ||| ym_i2l t).toInt = x.toInt * 256 + t := by
  obtain ⟨n, e1, e2, e3⟩ := zl_nat h0
  have ht : (ym_i2l t).toInt = t := zl_i2l ⟨by omega, by omega⟩
  obtain ⟨k, f1, f2, f3⟩ := zl_nat (x := ym_i2l t) (by omega)
  have e4 : (ym_lshl x 8).toBitVec.toNat = n * 2 ^ 8 := by
    rw [zl_shl8, BitVec.toNat_shiftLeft, e2, Nat.shiftLeft_eq, Nat.mod_eq_of_lt (by omega)]
  rw [zl_bv (n := n * 2 ^ 8 + k) ?_ (by omega)]
  · omega
  · rw [Int64.toBitVec_or, BitVec.toNat_or, e4, f2, ← Nat.shiftLeft_eq, ← Nat.shiftLeft_add_eq_or_of_lt (by omega)]
theorem zl_l2i {x : Int64} (h0 : -2147483648 ≤ x.toInt) (h1 : x.toInt < 2147483648) : ym_l2i x = x.toInt := by
  show (x.toInt32).toInt = _
  rw [Int64.toInt_toInt32, Int.bmod_eq_of_le (by omega) (by omega)]
theorem zl_mul {x : Int64} {t : Int} (h0 : 0 ≤ x.toInt) (h1 : x.toInt < 36028797018963967) (t0 : 0 ≤ t) (t1 : t < 256) : (x * 256 + ym_i2l t).toInt = x.toInt * 256 + t := by
  have ht : (ym_i2l t).toInt = t := zl_i2l ⟨by omega, by omega⟩
  have e : (256 : Int64).toInt = 256 := rfl
  rw [Int64.toInt_add, Int64.toInt_mul, ht, e, Int.bmod_eq_of_le (n := x.toInt * 256) (by omega) (by omega), Int.bmod_eq_of_le (by omega) (by omega)]
theorem zl_of (n : Nat) (h : n < 9223372036854775808) : (Int64.ofNat n).toInt = (n : Int) := Int64.toInt_ofNat_of_lt h
