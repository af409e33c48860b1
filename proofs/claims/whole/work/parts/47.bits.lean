def bt (x : Int32) (i : Nat) : Bool := x.toBitVec.getLsbD i
theorem b_ext {x y : Int32} (h : ∀ i, i < 32 → bt x i = bt y i) : x = y := Int32.toBitVec_inj.mp (BitVec.eq_of_getLsbD_eq (fun i hi => h i hi))
theorem b_or (x y : Int32) (i : Nat) : bt (x ||| y) i = (bt x i || bt y i) := by unfold bt; rw [Int32.toBitVec_or, BitVec.getLsbD_or]
theorem b_and (x y : Int32) (i : Nat) : bt (x &&& y) i = (bt x i && bt y i) := by unfold bt; rw [Int32.toBitVec_and, BitVec.getLsbD_and]
theorem b_xor (x y : Int32) (i : Nat) : bt (x ^^^ y) i = (bt x i ^^ bt y i) := by unfold bt; rw [Int32.toBitVec_xor, BitVec.getLsbD_xor]
theorem b_big {x : Int32} {i : Nat} (h : 32 ≤ i) : bt x i = false := BitVec.getLsbD_of_ge _ _ h
theorem b_255 (i : Nat) : bt 255 i = decide (i < 8) := by
  rcases Nat.lt_or_ge i 32 with h | h
  · exact (by decide +kernel : ∀ i, i < 32 → bt 255 i = decide (i < 8)) i h
  · rw [b_big h, decide_eq_false (by omega)]
theorem b_65535 (i : Nat) : bt 65535 i = decide (i < 16) := by
  rcases Nat.lt_or_ge i 32 with h | h
  · exact (by decide +kernel : ∀ i, i < 32 → bt 65535 i = decide (i < 16)) i h
  · rw [b_big h, decide_eq_false (by omega)]
theorem b_m1 : ∀ i, i < 32 → bt (-1) i = true := by decide +kernel
theorem b_0 (i : Nat) : bt 0 i = false := BitVec.getLsbD_zero
theorem s_l : ∀ n, n < 32 → ((nI n &&& 31).toBitVec.smod 32).toNat = n := by decide +kernel
theorem s_u : ∀ n, n < 32 → (((nI n).toUInt32 &&& Int32.toUInt32 31).toBitVec % 32).toNat = n := by decide +kernel
theorem b_shl (n : Nat) (hn : n < 32) (x : Int32) {i : Nat} (hi : i < 32) : bt (x <<< (nI n &&& 31)) i = (decide (n ≤ i) && bt x (i - n)) := by
  unfold bt
  rw [Int32.toBitVec_shiftLeft]
  show (x.toBitVec <<< ((nI n &&& 31).toBitVec.smod 32).toNat).getLsbD i = _
  rw [s_l n hn, BitVec.getLsbD_shiftLeft]
  rcases Nat.lt_or_ge i n with h | h
  · simp [h, Nat.not_le.mpr h]
  · simp [hi, h, Nat.not_lt.mpr h]
theorem b_ushr (n : Nat) (hn : n < 32) (x : Int32) (i : Nat) : bt ((x.toUInt32 >>> ((nI n).toUInt32 &&& Int32.toUInt32 31)).toInt32) i = bt x (n + i) := by
  show (x.toUInt32 >>> ((nI n).toUInt32 &&& Int32.toUInt32 31)).toBitVec.getLsbD i = x.toUInt32.toBitVec.getLsbD (n + i)
  rw [UInt32.toBitVec_shiftRight]
  show (x.toUInt32.toBitVec >>> (((nI n).toUInt32 &&& Int32.toUInt32 31).toBitVec % 32).toNat).getLsbD i = _
  rw [s_u n hn, BitVec.getLsbD_ushiftRight]
theorem b_sshr (n : Nat) (hn : n < 32) (x : Int32) {i : Nat} (hi : i < 32) : bt (x >>> (nI n &&& 31)) i = if n + i < 32 then bt x (n + i) else bt x 31 := by
  unfold bt
  rw [Int32.toBitVec_shiftRight]
  show (x.toBitVec.sshiftRight ((nI n &&& 31).toBitVec.smod 32).toNat).getLsbD i = _
  rw [s_l n hn, BitVec.getLsbD_sshiftRight, BitVec.msb_eq_getLsbD_last]
  simp [hi]
theorem nx_and (a b : Nat) : nI a &&& nI b = nI (a &&& b) := by
  apply Int32.toBitVec_inj.1
  show BitVec.ofNat 32 a &&& BitVec.ofNat 32 b = BitVec.ofNat 32 (a &&& b)
  apply BitVec.eq_of_getLsbD_eq
  intro i hi
  simp [hi]
theorem nx_xor (a b : Nat) : nI a ^^^ nI b = nI (a ^^^ b) := by
  apply Int32.toBitVec_inj.1
  show BitVec.ofNat 32 a ^^^ BitVec.ofNat 32 b = BitVec.ofNat 32 (a ^^^ b)
  apply BitVec.eq_of_getLsbD_eq
  intro i hi
  simp [hi]
theorem nx_or (a b : Nat) : nI a ||| nI b = nI (a ||| b) := by
  apply Int32.toBitVec_inj.1
  show BitVec.ofNat 32 a ||| BitVec.ofNat 32 b = BitVec.ofNat 32 (a ||| b)
  apply BitVec.eq_of_getLsbD_eq
  intro i hi
  simp [hi]
/-! whole numbers that aren't below 0, by their bits -/
theorem zand_n {a b : Nat} (ha : a < 2 ^ 31) : zand a b = ((a &&& b : Nat) : Int) := by
  show (nI a &&& nI b).toInt = _
  rw [nx_and, nI_toInt (Nat.lt_of_le_of_lt Nat.and_le_left ha)]
theorem zor_n {a b : Nat} (ha : a < 2 ^ 31) (hb : b < 2 ^ 31) : zor a b = ((a ||| b : Nat) : Int) := by
  show (nI a ||| nI b).toInt = _
  rw [nx_or, nI_toInt (Nat.or_lt_two_pow ha hb)]
theorem zxor_n {a b : Nat} (ha : a < 2 ^ 31) (hb : b < 2 ^ 31) : zxor a b = ((a ^^^ b : Nat) : Int) := by
  show (nI a ^^^ nI b).toInt = _
  rw [nx_xor, nI_toInt (Nat.xor_lt_two_pow ha hb)]
theorem zshr_n {a k : Nat} (ha : a < 2 ^ 31) (hk : k < 32) : zshr a k = ((a / 2 ^ k : Nat) : Int) := by
  show (nI a >>> (nI k &&& 31)).toInt = _
  rw [pk_shr _ _ k (s_l k hk), nI_toInt ha, Int.shiftRight_eq_div_pow]
  rfl
theorem zshl1_n {k : Nat} (hk : k < 31) : zshl 1 k = ((2 ^ k : Nat) : Int) := by
  have : ∀ k : Nat, k < 31 → zshl 1 k = ((2 ^ k : Nat) : Int) := by decide +kernel
  exact this k hk
theorem zand1_n (a : Nat) : zand a 1 = ((a % 2 : Nat) : Int) := by
  show (nI a &&& nI 1).toInt = _
  rw [nx_and, Nat.and_one_is_mod, nI_toInt (by omega)]
theorem zbit_n {a k : Nat} (ha : a < 2 ^ 31) (hk : k < 32) : zbit a k ↔ a.testBit k = true := by
  unfold zbit
  rw [zshr_n ha hk, zand1_n, Nat.testBit_eq_decide_div_mod_eq, decide_eq_true_iff]
  omega
/-! one byte of a word -/
def zbk (x s : Int) : Int := zand (zshr x s) 255
theorem zb_nI (y : Int32) : y = nI y.toBitVec.toNat := by
  apply Int32.toBitVec_inj.1
  show y.toBitVec = BitVec.ofNat 32 y.toBitVec.toNat
  simp
theorem zbk_r (x : Int) : 0 ≤ zand x 255 ∧ zand x 255 ≤ 255 := by
  have e := zb_nI (Int32.ofInt x)
  have e2 : zand x 255 = (((Int32.ofInt x).toBitVec.toNat &&& 255 : Nat) : Int) := by
    show (Int32.ofInt x &&& nI 255).toInt = _
    have h : (Int32.ofInt x).toBitVec.toNat &&& 255 ≤ 255 := Nat.and_le_right
    have e3 : Int32.ofInt x &&& nI 255 = nI ((Int32.ofInt x).toBitVec.toNat &&& 255) := by
      rw [← nx_and, ← e]
    rw [e3, nI_toInt (by omega)]
  have h : (Int32.ofInt x).toBitVec.toNat &&& 255 ≤ 255 := Nat.and_le_right
  rw [e2]
  omega
theorem zbk_u (x : Int) {n : Nat} (hn : n ≤ 24) : zand (zushr x n) 255 = zbk x n := by
  unfold zbk zand zushr zshr
  rw [z_as, z_as]
  have : (((Int32.ofInt x).toUInt32 >>> ((nI n).toUInt32 &&& Int32.toUInt32 31)).toInt32 &&& (255 : Int32)) = ((Int32.ofInt x >>> (nI n &&& 31)) &&& (255 : Int32)) := by
    apply b_ext
    intro i hi
    rw [b_and, b_and, b_255, b_ushr n (by omega), b_sshr n (by omega) _ hi]
    by_cases c : i < 8
    · rw [if_pos (by omega)]
    · rw [decide_eq_false c, Bool.and_false, Bool.and_false]
  exact congrArg Int32.toInt this
