/-! bits of small numbers, as Nat has them -/
theorem nI_i (a : Nat) : Int32.ofInt (a : Int) = nI a := by
  unfold nI
  exact Int32.ofInt_eq_ofNat
theorem and32_n {a b : Nat} (ha : a < 2147483648) (hb : b < 2147483648) : and32 a b = ((a &&& b : Nat) : Int) := by
  rw [and32_eq, nI_i, nI_i]
  have h1 : (nI a &&& nI b).toBitVec.toNat = a &&& b := by
    rw [Int32.toBitVec_and, BitVec.toNat_and, pk_tn (by omega), pk_tn (by omega)]
  have h2 : a &&& b < 2147483648 := Nat.lt_of_le_of_lt Nat.and_le_left ha
  rw [Int32.toInt, BitVec.toInt_eq_toNat_cond, h1, if_pos (by omega)]
theorem or32_n {a b : Nat} (ha : a < 2147483648) (hb : b < 2147483648) : or32 a b = ((a ||| b : Nat) : Int) := by
  rw [or32_eq, nI_i, nI_i]
  have h1 : (nI a ||| nI b).toBitVec.toNat = a ||| b := by
    rw [Int32.toBitVec_or, BitVec.toNat_or, pk_tn (by omega), pk_tn (by omega)]
  have h2 : a ||| b < 2147483648 := Nat.or_lt_two_pow (n := 31) ha hb
  rw [Int32.toInt, BitVec.toInt_eq_toNat_cond, h1, if_pos (by omega)]
theorem xor32_n {a b : Nat} (ha : a < 2147483648) (hb : b < 2147483648) : xor32 a b = ((a ^^^ b : Nat) : Int) := by
  rw [xor32_eq, nI_i, nI_i]
  have h1 : (nI a ^^^ nI b).toBitVec.toNat = a ^^^ b := by
    rw [Int32.toBitVec_xor, BitVec.toNat_xor, pk_tn (by omega), pk_tn (by omega)]
  have h2 : a ^^^ b < 2147483648 := Nat.xor_lt_two_pow (n := 31) ha hb
  rw [Int32.toInt, BitVec.toInt_eq_toNat_cond, h1, if_pos (by omega)]
theorem sm31 : ∀ k, k < 32 → ((nI k &&& 31).toBitVec.smod 32).toNat = k := by decide +kernel
theorem shl32_n {a k : Nat} (hk : k < 32) (h : a * 2 ^ k < 2147483648) : shl32 a k = ((a * 2 ^ k : Nat) : Int) := by
  rw [shl32_eq, nI_i, nI_i]
  rw [pk_shlN _ k (sm31 k hk) (by omega), nI_toInt h]
theorem shr32_n {a k : Nat} (hk : k < 32) (h : a < 2147483648) : shr32 a k = ((a / 2 ^ k : Nat) : Int) := by
  rw [shr32_eq, nI_i, nI_i]
  rw [pk_shrN h _ k (sm31 k hk), nI_toInt (Nat.lt_of_le_of_lt (Nat.div_le_self _ _) h)]
theorem bit_n {a k : Nat} (hk : k < 32) (h : a < 2147483648) : and32 (shr32 a k) 1 = if a.testBit k then 1 else 0 := by
  rw [shr32_n hk h, show (1 : Int) = ((1 : Nat) : Int) from rfl, and32_n (Nat.lt_of_le_of_lt (Nat.div_le_self _ _) h) (by decide), Nat.and_one_is_mod, Nat.testBit_eq_decide_div_mod_eq]
  by_cases z : a / 2 ^ k % 2 = 1
  · rw [z]; simp
  · rw [show a / 2 ^ k % 2 = 0 by omega]; simp
