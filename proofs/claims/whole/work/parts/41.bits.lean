/-! WORDS OF BITS -/
theorem l_nat {x : Int} (h0 : 0 ≤ x) (h : x < 9223372036854775808) : (Int64.ofInt x).toBitVec.toNat = x.toNat := by
  show (BitVec.ofInt 64 x).toNat = x.toNat
  rw [BitVec.toNat_ofInt]
  omega
theorem l_int {a : Int64} (h : a.toBitVec.toNat < 9223372036854775808) : a.toInt = (a.toBitVec.toNat : Int) := by
  show a.toBitVec.toInt = _
  exact BitVec.toInt_eq_toNat_of_lt (by omega)
theorem i_int {a : Int32} (h : a.toBitVec.toNat < 2147483648) : a.toInt = (a.toBitVec.toNat : Int) := by
  show a.toBitVec.toInt = _
  exact BitVec.toInt_eq_toNat_of_lt (by omega)
theorem l_shl {x : Int} {k : Int} {m : Nat} (h0 : 0 ≤ x) (h : x * 2 ^ m < 9223372036854775808) (hk : (((Int32.ofInt k).toInt64 &&& 63).toBitVec.smod 64).toNat = m) : (Int64.ofInt x <<< ((Int32.ofInt k).toInt64 &&& 63)).toBitVec.toNat = x.toNat * 2 ^ m := by
  have hx : x < 9223372036854775808 := by
    have h1 : (0 : Int) < 2 ^ m := Int.pow_pos (by omega)
    have := Int.mul_le_mul_of_nonneg_left (show (1 : Int) ≤ 2 ^ m by omega) h0
    omega
  rw [Int64.toBitVec_shiftLeft, BitVec.shiftLeft_eq', BitVec.toNat_shiftLeft, hk, l_nat h0 hx, Nat.shiftLeft_eq, Nat.mod_eq_of_lt]
  have h2 : ((x.toNat * 2 ^ m : Nat) : Int) = x * 2 ^ m := by
    rw [Int.natCast_mul, Int.natCast_pow]
    congr 1
    omega
  omega
theorem l_pk {x y k : Int} {m : Nat} (hk : (((Int32.ofInt k).toInt64 &&& 63).toBitVec.smod 64).toNat = m) (h0 : 0 ≤ x) (y0 : 0 ≤ y) (y1 : y < 2 ^ m) (h : x * 2 ^ m + y < 9223372036854775808) : z_lor (z_lshl x k) y = x * 2 ^ m + y := by
  have hx : x * 2 ^ m < 9223372036854775808 := by omega
  have hs := l_shl h0 hx hk
  have h2 : ((x.toNat * 2 ^ m : Nat) : Int) = x * 2 ^ m := by
    rw [Int.natCast_mul, Int.natCast_pow]
    congr 1
    omega
  have h3 : ((2 ^ m : Nat) : Int) = 2 ^ m := by rw [Int.natCast_pow]; rfl
  unfold z_lor z_lshl
  rw [Int64.ofInt_toInt]
  have e : (Int64.ofInt x <<< ((Int32.ofInt k).toInt64 &&& 63) ||| Int64.ofInt y).toBitVec.toNat = x.toNat * 2 ^ m + y.toNat := by
    rw [Int64.toBitVec_or, BitVec.toNat_or, hs, l_nat y0 (by omega), ← Nat.shiftLeft_eq, Nat.shiftLeft_add_eq_or_of_lt (by omega)]
  rw [l_int (by omega), e]
  omega
theorem l_shr {x k : Int} {m : Nat} (hk : (((Int32.ofInt k).toInt64 &&& 63).toBitVec.smod 64).toNat = m) (h0 : 0 ≤ x) (h : x < 9223372036854775808) : z_lshr x k = x / 2 ^ m := by
  unfold z_lshr
  have e : (Int64.ofInt x >>> ((Int32.ofInt k).toInt64 &&& 63)).toBitVec.toNat = x.toNat / 2 ^ m := by
    rw [Int64.toBitVec_shiftRight, BitVec.sshiftRight_eq', hk, BitVec.sshiftRight_eq_of_msb_false, BitVec.toNat_ushiftRight, l_nat h0 h, Nat.shiftRight_eq_div_pow]
    rw [BitVec.msb_eq_false_iff_two_mul_lt, l_nat h0 h]
    omega
  have e2 : x.toNat / 2 ^ m ≤ x.toNat := Nat.div_le_self _ _
  rw [l_int (by omega), e, Int.natCast_ediv, Int.natCast_pow]
  congr 1
  omega
theorem l_and {x y : Int} {m : Nat} (hm : m ≤ 8) (h0 : 0 ≤ x) (h : x < 9223372036854775808) (hy : y = 2 ^ m - 1) : z_and (z_l2i x) y = x % 2 ^ m := by
  unfold z_and z_l2i
  rw [Int32.ofInt_toInt]
  have e : ((Int64.ofInt x).toInt32 &&& Int32.ofInt y).toBitVec.toNat = x.toNat % 2 ^ m := by
    rw [Int32.toBitVec_and, BitVec.toNat_and, Int64.toBitVec_toInt32, BitVec.signExtend_eq_setWidth_of_le _ (by omega), BitVec.toNat_setWidth, l_nat h0 h]
    have : (Int32.ofInt y).toBitVec.toNat = 2 ^ m - 1 := by
      subst hy
      have : m = 0 ∨ m = 1 ∨ m = 2 ∨ m = 3 ∨ m = 4 ∨ m = 5 ∨ m = 6 ∨ m = 7 ∨ m = 8 := by omega
      rcases this with rfl | rfl | rfl | rfl | rfl | rfl | rfl | rfl | rfl <;> decide +kernel
    rw [this, Nat.and_two_pow_sub_one_eq_mod, Nat.mod_mod_of_dvd]
    exact Nat.pow_dvd_pow 2 (by omega)
  have e2 : x.toNat % 2 ^ m < 2 ^ m := Nat.mod_lt _ (Nat.two_pow_pos m)
  have e3 : 2 ^ m ≤ 2 ^ 8 := Nat.pow_le_pow_right (by omega) hm
  rw [i_int (by omega), e, Int.natCast_emod, Int.natCast_pow]
  congr 1
  omega
theorem l_land {x y : Int} {m : Nat} (hm : m ≤ 8) (h0 : 0 ≤ x) (h : x < 9223372036854775808) (hy : y = 2 ^ m - 1) : z_l2i (z_land x y) = x % 2 ^ m := by
  unfold z_land z_l2i
  rw [Int64.ofInt_toInt]
  have e0 : (Int64.ofInt x &&& Int64.ofInt y).toBitVec.toNat = x.toNat % 2 ^ m := by
    rw [Int64.toBitVec_and, BitVec.toNat_and, l_nat h0 h]
    have : (Int64.ofInt y).toBitVec.toNat = 2 ^ m - 1 := by
      subst hy
      have : m = 0 ∨ m = 1 ∨ m = 2 ∨ m = 3 ∨ m = 4 ∨ m = 5 ∨ m = 6 ∨ m = 7 ∨ m = 8 := by omega
      rcases this with rfl | rfl | rfl | rfl | rfl | rfl | rfl | rfl | rfl <;> decide +kernel
    rw [this, Nat.and_two_pow_sub_one_eq_mod]
  have e2 : x.toNat % 2 ^ m < 2 ^ m := Nat.mod_lt _ (Nat.two_pow_pos m)
  have e3 : 2 ^ m ≤ 2 ^ 8 := Nat.pow_le_pow_right (by omega) hm
  have e : (Int64.ofInt x &&& Int64.ofInt y).toInt32.toBitVec.toNat = x.toNat % 2 ^ m := by
    rw [Int64.toBitVec_toInt32, BitVec.signExtend_eq_setWidth_of_le _ (by omega), BitVec.toNat_setWidth, e0, Nat.mod_eq_of_lt]
    omega
  rw [i_int (by omega), e, Int.natCast_emod, Int.natCast_pow]
  congr 1
  omega
