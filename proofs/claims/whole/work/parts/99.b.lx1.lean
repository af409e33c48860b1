section LX1
variable {G : zG} {d : Nat} {M : zM} {Q : zV → zM → Prop}
theorem zl_nat {x : BitVec 64} {a : Nat} (h : x.toNat = a) (ha : a < 2 ^ 63) : x.toInt = (a : Int) := by
  rw [BitVec.toInt_eq_toNat_of_lt (by rw [h]; omega), h]
theorem zl_ofn {a : Nat} (ha : a < 2 ^ 63) : (Int64.ofInt (a : Int)).toBitVec.toNat = a := by
  rw [Int64.toBitVec_ofInt, BitVec.ofInt_natCast, BitVec.toNat_ofNat, Nat.mod_eq_of_lt (by omega)]
theorem zlor_n {a b : Nat} (ha : a < 2 ^ 63) (hb : b < 2 ^ 63) : zlor a b = ((a ||| b : Nat) : Int) := by
  show (Int64.ofInt (a : Int) ||| Int64.ofInt (b : Int)).toBitVec.toInt = _
  refine zl_nat ?_ (Nat.or_lt_two_pow ha hb)
  rw [Int64.toBitVec_or, BitVec.toNat_or, zl_ofn ha, zl_ofn hb]
theorem zlshl_n {a : Nat} (ha : a < 2 ^ 48) : zlshl a 8 = ((a * 256 : Nat) : Int) := by
  have hs : ((Int32.ofInt 8).toInt64 &&& 63) = 8 := by decide
  show (Int64.ofInt (a : Int) <<< ((Int32.ofInt 8).toInt64 &&& 63)).toBitVec.toInt = _
  rw [hs]
  refine zl_nat ?_ (by omega)
  have h8 : ((8 : Int64).toBitVec.smod 64) = 8#64 := by decide
  rw [Int64.toBitVec_shiftLeft, h8, BitVec.shiftLeft_eq', BitVec.toNat_shiftLeft, zl_ofn (by omega)]
  show a <<< 8 % 2 ^ 64 = a * 256
  rw [Nat.shiftLeft_eq, Nat.mod_eq_of_lt (by omega)]
theorem zlshr_n {a : Nat} (ha : a < 2 ^ 63) : zlshr a 48 = ((a / 2 ^ 48 : Nat) : Int) := by
  have hs : ((Int32.ofInt 48).toInt64 &&& 63) = 48 := by decide
  show (Int64.ofInt (a : Int) >>> ((Int32.ofInt 48).toInt64 &&& 63)).toBitVec.toInt = _
  rw [hs]
  have h8 : ((48 : Int64).toBitVec.smod 64) = 48#64 := by decide
  rw [Int64.toBitVec_shiftRight, h8, BitVec.sshiftRight_eq', BitVec.toInt_sshiftRight, zl_nat (zl_ofn ha) ha]
  show ((a : Int) >>> 48) = _
  rw [Int.shiftRight_eq_div_pow]
  rfl
end LX1
