/-! Bits of small whole numbers: own work. -/
theorem zn_bv (x : Nat) : (Int32.ofInt (x : Int)).toBitVec = BitVec.ofNat 32 x := by
  rw [Int32.toBitVec_ofInt]
  exact BitVec.ofInt_natCast 32 x
theorem zn_toInt {x : Int32} {n : Nat} (h : x.toBitVec.toNat = n) (hn : n < 2147483648) : x.toInt = (n : Int) := by
  show x.toBitVec.toInt = _
  rw [BitVec.toInt_eq_toNat_of_lt (by omega), h]
theorem zn_andN {x y : Nat} (hx : x < 2147483648) (hy : y < 2147483648) : ym_and (x : Int) (y : Int) = ((x &&& y : Nat) : Int) := by
  refine zn_toInt ?_ (Nat.lt_of_le_of_lt Nat.and_le_left hx)
  rw [Int32.toBitVec_and, zn_bv, zn_bv, BitVec.toNat_and, BitVec.toNat_ofNat, BitVec.toNat_ofNat, Nat.mod_eq_of_lt (by omega), Nat.mod_eq_of_lt (by omega)]
theorem zn_orN {x y : Nat} (hx : x < 2147483648) (hy : y < 2147483648) : ym_or (x : Int) (y : Int) = ((x ||| y : Nat) : Int) := by
  refine zn_toInt ?_ (Nat.or_lt_two_pow (n := 31) hx hy)
  rw [Int32.toBitVec_or, zn_bv, zn_bv, BitVec.toNat_or, BitVec.toNat_ofNat, BitVec.toNat_ofNat, Nat.mod_eq_of_lt (by omega), Nat.mod_eq_of_lt (by omega)]
theorem zn_cnt0 : ∀ k : Fin 32, ((Int32.ofInt ((k.val : Nat) : Int) &&& 31).toBitVec.smod 32).toNat = k.val := by decide
theorem zn_cnt {k : Nat} (h : k < 32) : ((Int32.ofInt (k : Int) &&& 31).toBitVec.smod 32).toNat = k := zn_cnt0 ⟨k, h⟩
theorem zn_shlN {x k : Nat} (hk : k < 32) (hx : x * 2 ^ k < 2147483648) : ym_shl (x : Int) (k : Int) = ((x * 2 ^ k : Nat) : Int) := by
  refine zn_toInt ?_ hx
  have hx2 : x < 4294967296 := Nat.lt_of_le_of_lt (Nat.le_mul_of_pos_right x (Nat.two_pow_pos k)) (by omega)
  rw [Int32.toBitVec_shiftLeft, zn_bv, BitVec.shiftLeft_eq', zn_cnt hk, BitVec.toNat_shiftLeft, BitVec.toNat_ofNat, Nat.mod_eq_of_lt hx2, Nat.shiftLeft_eq, Nat.mod_eq_of_lt (by omega)]
theorem zn_shrN {x k : Nat} (hk : k < 32) (hx : x < 2147483648) : ym_shr (x : Int) (k : Int) = ((x / 2 ^ k : Nat) : Int) := by
  refine zn_toInt ?_ (Nat.lt_of_le_of_lt (Nat.div_le_self _ _) hx)
  have hm : (BitVec.ofNat 32 x).msb = false := by
    rw [BitVec.msb_eq_false_iff_two_mul_lt, BitVec.toNat_ofNat, Nat.mod_eq_of_lt (by omega)]
    omega
  rw [Int32.toBitVec_shiftRight, zn_bv, BitVec.sshiftRight', zn_cnt hk, BitVec.sshiftRight_eq_of_msb_false hm, BitVec.toNat_ushiftRight, BitVec.toNat_ofNat, Nat.mod_eq_of_lt (by omega), Nat.shiftRight_eq_div_pow]
theorem zn_nat {x : Int} (h : 0 ≤ x) : ∃ n : Nat, x = (n : Int) := ⟨x.toNat, by omega⟩
theorem zn_mod {x : Int} (k : Nat) (h0 : 0 ≤ x) (h1 : x < 2147483648) (hk : k < 31) : ym_and x ((2 ^ k - 1 : Nat) : Int) = x % ((2 ^ k : Nat) : Int) := by
  obtain ⟨n, rfl⟩ := zn_nat h0
  have h2 : (2 : Nat) ^ k < 2 ^ 31 := Nat.pow_lt_pow_right (by decide) hk
  rw [zn_andN (by omega) (by omega), Nat.and_two_pow_sub_one_eq_mod]
  exact Int.natCast_emod n (2 ^ k)
theorem zn_31 {x : Int} (h0 : 0 ≤ x) (h1 : x < 2147483648) : ym_and x 31 = x % 32 := zn_mod 5 h0 h1 (by decide)
theorem zn_127 {x : Int} (h0 : 0 ≤ x) (h1 : x < 2147483648) : ym_and x 127 = x % 128 := zn_mod 7 h0 h1 (by decide)
theorem zn_63 {x : Int} (h0 : 0 ≤ x) (h1 : x < 2147483648) : ym_and x 63 = x % 64 := zn_mod 6 h0 h1 (by decide)
theorem zn_255 {x : Int} (h0 : 0 ≤ x) (h1 : x < 2147483648) : ym_and x 255 = x % 256 := zn_mod 8 h0 h1 (by decide)
theorem zn_21 {x : Int} (h0 : 0 ≤ x) (h1 : x < 2147483648) : ym_and x 2097151 = x % 2097152 := zn_mod 21 h0 h1 (by decide)
theorem zn_1 {x : Int} (h0 : 0 ≤ x) (h1 : x < 2147483648) : ym_and x 1 = x % 2 := zn_mod 1 h0 h1 (by decide)
theorem zn_shl {x : Int} (k : Nat) (hk : k < 32) (h0 : 0 ≤ x) (h1 : x * ((2 ^ k : Nat) : Int) < 2147483648) : ym_shl x (k : Int) = x * ((2 ^ k : Nat) : Int) := by
  obtain ⟨n, rfl⟩ := zn_nat h0
  rw [zn_shlN hk (by rw [← Int.natCast_mul] at h1; omega), Int.natCast_mul]
theorem zn_shr {x : Int} (k : Nat) (hk : k < 32) (h0 : 0 ≤ x) (h1 : x < 2147483648) : ym_shr x (k : Int) = x / ((2 ^ k : Nat) : Int) := by
  obtain ⟨n, rfl⟩ := zn_nat h0
  rw [zn_shrN hk (by omega), Int.natCast_ediv]
theorem zn_shl21 {x : Int} (h0 : 0 ≤ x) (h1 : x < 1024) : ym_shl x 21 = x * 2097152 := zn_shl 21 (by decide) h0 (by have : ((2 ^ 21 : Nat) : Int) = 2097152 := rfl; rw [this]; omega)
theorem zn_shl7 {x : Int} (h0 : 0 ≤ x) (h1 : x < 16777216) : ym_shl x 7 = x * 128 := zn_shl 7 (by decide) h0 (by have : ((2 ^ 7 : Nat) : Int) = 128 := rfl; rw [this]; omega)
theorem zn_shl6 {x : Int} (h0 : 0 ≤ x) (h1 : x < 16777216) : ym_shl x 6 = x * 64 := zn_shl 6 (by decide) h0 (by have : ((2 ^ 6 : Nat) : Int) = 64 := rfl; rw [this]; omega)
theorem zn_shr6 {x : Int} (h0 : 0 ≤ x) (h1 : x < 2147483648) : ym_shr x 6 = x / 64 := zn_shr 6 (by decide) h0 h1
theorem zn_shr7 {x : Int} (h0 : 0 ≤ x) (h1 : x < 2147483648) : ym_shr x 7 = x / 128 := zn_shr 7 (by decide) h0 h1
theorem zn_shr14 {x : Int} (h0 : 0 ≤ x) (h1 : x < 2147483648) : ym_shr x 14 = x / 16384 := zn_shr 14 (by decide) h0 h1
theorem zn_shr21 {x : Int} (h0 : 0 ≤ x) (h1 : x < 2147483648) : ym_shr x 21 = x / 2097152 := zn_shr 21 (by decide) h0 h1
theorem zn_or {a b : Int} (k : Nat) (hk : k < 31) (ha : 0 ≤ a) (hb : 0 ≤ b) (hb2 : b < ((2 ^ k : Nat) : Int)) (h : a * ((2 ^ k : Nat) : Int) + b < 2147483648) : ym_or (a * ((2 ^ k : Nat) : Int)) b = a * ((2 ^ k : Nat) : Int) + b := by
  obtain ⟨n, rfl⟩ := zn_nat ha
  obtain ⟨m, rfl⟩ := zn_nat hb
  rw [← Int.natCast_mul] at h ⊢
  have h2 : (2 : Nat) ^ k < 2 ^ 31 := Nat.pow_lt_pow_right (by decide) hk
  rw [zn_orN (by omega) (by omega), ← Int.natCast_add, ← Nat.shiftLeft_eq, Nat.shiftLeft_add_eq_or_of_lt (by omega)]
theorem zn_or7 {a b : Int} (ha : 0 ≤ a) (h1 : a < 16777215) (hb : 0 ≤ b) (hb2 : b < 128) : ym_or (a * 128) b = a * 128 + b := zn_or 7 (by decide) ha hb hb2 (by have : ((2 ^ 7 : Nat) : Int) = 128 := rfl; rw [this]; omega)
theorem zn_or6 {a b : Int} (ha : 0 ≤ a) (h1 : a < 16777215) (hb : 0 ≤ b) (hb2 : b < 64) : ym_or (a * 64) b = a * 64 + b := zn_or 6 (by decide) ha hb hb2 (by have : ((2 ^ 6 : Nat) : Int) = 64 := rfl; rw [this]; omega)
theorem zn_32 : ∀ x : Fin 256, ym_and ((x.val : Nat) : Int) 32 = 0 ↔ ((x.val : Nat) : Int) / 32 % 2 = 0 := by decide +kernel
theorem zn_a32 {x : Int} (h0 : 0 ≤ x) (h1 : x < 256) : (if ym_and x 32 = 0 then (0 : Int) else 1) = x / 32 % 2 := by
  obtain ⟨n, rfl⟩ := zn_nat h0
  have h := zn_32 ⟨n, by omega⟩
  by_cases e : ym_and (n : Int) 32 = 0
  · rw [if_pos e, h.mp e]
  · rw [if_neg e]
    have e2 : ¬ (n : Int) / 32 % 2 = 0 := fun z => e (h.mpr z)
    omega
theorem zn_div {x y : Int} (h0 : 0 ≤ x) (h1 : x < 2147483648) (g0 : 0 < y) (g1 : y < 2147483648) : ym_div x y = x / y := by
  obtain ⟨n, rfl⟩ := zn_nat h0
  obtain ⟨m, rfl⟩ := zn_nat (Int.le_of_lt g0)
  show (Int32.ofInt (n : Int) / Int32.ofInt (m : Int)).toInt = _
  rw [Int32.toInt_div_of_ne_right _ _ (fun z => by
    have z2 := congrArg Int32.toInt z
    rw [ym_of ⟨by omega, by omega⟩] at z2
    have z3 : (-1 : Int32).toInt = -1 := rfl
    omega), ym_of ⟨by omega, by omega⟩, ym_of ⟨by omega, by omega⟩]
  exact Int.tdiv_eq_ediv_of_nonneg h0
theorem zn_rem {x y : Int} (h0 : 0 ≤ x) (h1 : x < 2147483648) (g0 : 0 < y) (g1 : y < 2147483648) : ym_rem x y = x % y := by
  have e : Int32.ofInt x / Int32.ofInt y = Int32.ofInt (x / y) := by
    have e1 : (Int32.ofInt x / Int32.ofInt y).toInt = x / y := zn_div h0 h1 g0 g1
    have b1 : x / y ≤ x := Int.ediv_le_self y h0
    have b2 : 0 ≤ x / y := Int.ediv_nonneg h0 (by omega)
    rw [← Int32.toInt_inj, e1, ym_of ⟨by omega, by omega⟩]
  have b1 : x % y < y := Int.emod_lt_of_pos x g0
  have b2 : 0 ≤ x % y := Int.emod_nonneg x (by omega)
  show (Int32.ofInt x - Int32.ofInt x / Int32.ofInt y * Int32.ofInt y).toInt = _
  rw [e, ← Int32.ofInt_mul, ← Int32.ofInt_sub, ym_of ⟨?_, ?_⟩]
  · rw [Int.emod_def, Int.mul_comm]
  · rw [Int.mul_comm, ← Int.emod_def]
    omega
  · rw [Int.mul_comm, ← Int.emod_def]
    omega
