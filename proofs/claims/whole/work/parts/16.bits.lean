/-! ===== bits of numbers ===== -/
theorem ti_cond (x : Int32) : x.toInt = if 2 * x.toBitVec.toNat < 2 ^ 32 then (x.toBitVec.toNat : Int) else (x.toBitVec.toNat : Int) - 4294967296 := by
  have h : x.toInt = x.toBitVec.toInt := rfl
  rw [h, BitVec.toInt_eq_toNat_cond]
  split <;> simp
theorem ti_nat {x : Int32} (h : 0 ≤ x.toInt) : x.toInt = (x.toBitVec.toNat : Int) := by
  have h1 := ti_cond x
  have h2 := x.toBitVec.isLt
  split at h1 <;> omega
theorem ti_of_nat {x : Int32} (h : x.toBitVec.toNat < 2147483648) : x.toInt = (x.toBitVec.toNat : Int) := by
  have h1 := ti_cond x
  split at h1 <;> omega
theorem tn_and {x y : Int32} : (x &&& y).toBitVec.toNat = x.toBitVec.toNat &&& y.toBitVec.toNat := by
  rw [Int32.toBitVec_and, BitVec.toNat_and]
theorem ti_and20 {x : Int32} (h : 0 ≤ x.toInt) : (x &&& 1048575).toInt = x.toInt % 1048576 := by
  have e : (x &&& 1048575).toBitVec.toNat = x.toBitVec.toNat % 1048576 := by
    rw [tn_and, show (1048575 : Int32).toBitVec.toNat = 2 ^ 20 - 1 by decide +kernel, Nat.and_two_pow_sub_one_eq_mod]
  rw [ti_of_nat (by rw [e]; omega), e, ti_nat h]
  omega
theorem tn_and255 (x : Int32) : (x &&& Int32.ofInt 255).toBitVec.toNat = x.toBitVec.toNat % 256 := by
  rw [tn_and, show (Int32.ofInt 255).toBitVec.toNat = 2 ^ 8 - 1 by decide +kernel, Nat.and_two_pow_sub_one_eq_mod]
theorem ti_and255 (x : Int32) : (x &&& Int32.ofInt 255).toInt = ((x.toBitVec.toNat % 256 : Nat) : Int) := by
  rw [ti_of_nat (by rw [tn_and255]; omega), tn_and255]
theorem ti_shr20 {x : Int32} (h : 0 ≤ x.toInt) : (kushr x (Int32.ofInt 20)).toInt = x.toInt / 1048576 := by
  have e : (kushr x (Int32.ofInt 20)).toBitVec.toNat = x.toBitVec.toNat / 1048576 := by
    unfold kushr
    rw [show ((Int32.ofInt 20).toUInt32 &&& Int32.toUInt32 31) = 20 by decide +kernel]
    show (x.toUInt32 >>> 20).toBitVec.toNat = _
    rw [show (x.toUInt32 >>> 20).toBitVec.toNat = (x.toUInt32 >>> 20).toNat from rfl, UInt32.toNat_shiftRight]
    show x.toBitVec.toNat >>> (20 % 32) = _
    rw [Nat.shiftRight_eq_div_pow]
  have h2 := x.toBitVec.isLt
  rw [ti_of_nat (by rw [e]; omega), e, ti_nat h]
  omega
theorem tl_cond (x : Int64) : x.toInt = if 2 * x.toBitVec.toNat < 2 ^ 64 then (x.toBitVec.toNat : Int) else (x.toBitVec.toNat : Int) - 18446744073709551616 := by
  have h : x.toInt = x.toBitVec.toInt := rfl
  rw [h, BitVec.toInt_eq_toNat_cond]
  split <;> simp
theorem tl_nat {x : Int64} (h : 0 ≤ x.toInt) : x.toInt = (x.toBitVec.toNat : Int) := by
  have h1 := tl_cond x
  have h2 := x.toBitVec.isLt
  split at h1 <;> omega
theorem tl_of_nat {x : Int64} (h : x.toBitVec.toNat < 9223372036854775808) : x.toInt = (x.toBitVec.toNat : Int) := by
  have h1 := tl_cond x
  split at h1 <;> omega
theorem tl_and31 {x : Int64} (h : 0 ≤ x.toInt) : (x &&& 2147483647).toInt = x.toInt % 2147483648 := by
  have e : (x &&& 2147483647).toBitVec.toNat = x.toBitVec.toNat % 2147483648 := by
    rw [show (x &&& 2147483647).toBitVec = x.toBitVec &&& (2147483647 : Int64).toBitVec from Int64.toBitVec_and x _, BitVec.toNat_and, show (2147483647 : Int64).toBitVec.toNat = 2 ^ 31 - 1 by decide +kernel, Nat.and_two_pow_sub_one_eq_mod]
  rw [tl_of_nat (by rw [e]; omega), e, tl_nat h]
  omega
theorem tl_ofInt {n : Int} (h : -9223372036854775808 ≤ n ∧ n < 9223372036854775808) : (Int64.ofInt n).toInt = n := by
  rw [Int64.toInt_ofInt]; exact tl_bm h.1 h.2

