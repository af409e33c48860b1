section PSB
/-! the signs of a sum's terms -/
theorem zshl_n8 {s : Nat} (hs : s < 2 ^ 17) : zshl s 8 = ((s * 256 : Nat) : Int) := by
  have h8 : (Int32.ofInt 8 &&& 31) = 8 := by decide
  have hn : (Int32.ofInt (s : Int)).toBitVec.toNat = s := by rw [Int32.toBitVec_ofInt, BitVec.ofInt_natCast, BitVec.toNat_ofNat, Nat.mod_eq_of_lt (by omega)]
  show (Int32.ofInt (s : Int) <<< (Int32.ofInt 8 &&& 31)).toBitVec.toInt = _
  rw [h8]
  have e : (Int32.ofInt (s : Int) <<< (8 : Int32)).toBitVec.toNat = s * 256 := by
    have h9 : ((8 : Int32).toBitVec.smod 32) = 8#32 := by decide
    rw [Int32.toBitVec_shiftLeft, h9, BitVec.shiftLeft_eq', BitVec.toNat_shiftLeft, hn]
    show s <<< 8 % 2 ^ 32 = s * 256
    rw [Nat.shiftLeft_eq, Nat.mod_eq_of_lt (by omega)]
  rw [BitVec.toInt_eq_toNat_of_lt (by rw [e]; omega), e]
theorem ps_pw {s c : Nat} (hs : s < 2 ^ 17) (hc : c < 256) : zor c (zshl s 8) = ((s * 256 + c : Nat) : Int) := by
  rw [zshl_n8 hs, zor_n (by omega) (by omega), Nat.or_comm, show s * 256 = 2 ^ 8 * s by omega, ← Nat.two_pow_add_eq_or_of_lt (show c < 2 ^ 8 by omega)]
theorem ps_pn {s c : Nat} (hs : s < 2 ^ 17) (hc : c < 256) : zpn 2 (zor c (zshl s 8)) = c := by
  rw [ps_pw hs hc]
  show zand ((s * 256 + c : Nat) : Int) 255 = _
  have h := zand_n (a := s * 256 + c) (b := 255) (by omega)
  have e : (s * 256 + c) &&& 255 = c := by
    rw [show (255 : Nat) = 2 ^ 8 - 1 by decide, Nat.and_two_pow_sub_one_eq_mod]
    omega
  rw [e] at h
  exact h
theorem ps_sg {s c j : Nat} (hs : s < 2 ^ 17) (hc : c < 256) (hj : j < 17) : zsg (zor c (zshl s 8)) j ↔ s.testBit j = true := by
  have d8 : (s * 256 + c) / 2 ^ 8 = s := by
    rw [show (2 : Nat) ^ 8 = 256 by decide]; omega
  show zand (zshr (zshr (zor c (zshl s 8)) 8) j) 1 = 1 ↔ _
  have e8 : zshr ((s * 256 + c : Nat) : Int) 8 = ((s : Nat) : Int) := by
    have := zshr_n (a := s * 256 + c) (k := 8) (by omega) (by decide)
    rw [d8] at this
    exact this
  rw [ps_pw hs hc, e8, zshr_n (by omega) (by omega), zand1_n, Nat.testBit_eq_decide_div_mod_eq, decide_eq_true_eq]
  omega
theorem ps_sb {s c : Nat} (hs : s < 2 ^ 17) (hc : c < 17) : zor (s : Int) (zshl 1 (c : Int)) = ((s ||| 2 ^ c : Nat) : Int) ∧ s ||| 2 ^ c < 2 ^ 17 ∧ ∀ j : Nat, (s ||| 2 ^ c).testBit j = (s.testBit j || decide (c = j)) := by
  refine ⟨zor_b (by omega) (by omega), Nat.or_lt_two_pow hs (Nat.pow_lt_pow_right (by decide) hc), fun j => ?_⟩
  rw [Nat.testBit_or, Nat.testBit_two_pow]
end PSB
