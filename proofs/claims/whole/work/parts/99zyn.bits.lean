/-! ===== bits of numbers that are not below 0 ===== -/
theorem of_nat9 {v : Nat} (_hv : v < 2147483648) : (Int32.ofInt (v : Int)).toBitVec = BitVec.ofNat 32 v := by
  show BitVec.ofInt 32 (v : Int) = _
  exact BitVec.ofInt_ofNat 32 v
theorem of_nat9n {v : Nat} (hv : v < 2147483648) : (Int32.ofInt (v : Int)).toBitVec.toNat = v := by
  rw [of_nat9 hv, BitVec.toNat_ofNat, Nat.mod_eq_of_lt (by omega)]
theorem ti_nat9 {x : Int32} {v : Nat} (h : x.toBitVec.toNat = v) (hv : v < 2147483648) : x.toInt = (v : Int) := by
  show x.toBitVec.toInt = _
  rw [BitVec.toInt_eq_toNat_of_lt (by omega), h]
theorem and_nat9 {a b : Nat} (ha : a < 2147483648) (hb : b < 2147483648) : iand9 (a : Int) (b : Int) = ((a &&& b : Nat) : Int) := by
  unfold iand9
  refine ti_nat9 ?_ (Nat.lt_of_le_of_lt Nat.and_le_left ha)
  rw [Int32.toBitVec_and, BitVec.toNat_and, of_nat9n ha, of_nat9n hb]
theorem or_nat9 {a b : Nat} (ha : a < 1073741824) (hb : b < 1073741824) : ior9 (a : Int) (b : Int) = ((a ||| b : Nat) : Int) := by
  unfold ior9
  have : a ||| b < 2 ^ 30 := Nat.or_lt_two_pow ha hb
  refine ti_nat9 ?_ (by omega)
  rw [Int32.toBitVec_or, BitVec.toNat_or, of_nat9n (by omega), of_nat9n (by omega)]
theorem shr_nat9 {a s : Nat} (ha : a < 2147483648) (hs : s < 32) : ishr9 (a : Int) (s : Int) = ((a / 2 ^ s : Nat) : Int) := by
  unfold ishr9
  have l : a / 2 ^ s < 2147483648 := Nat.lt_of_le_of_lt (Nat.div_le_self _ _) ha
  refine ti_nat9 ?_ l
  have key : (Int32.ofInt (a : Int) >>> (Int32.ofInt (s : Int) &&& 31)).toBitVec = (Int32.ofInt (a : Int)).toBitVec.sshiftRight s := by
    rcases (show s = 0 ∨ s = 1 ∨ s = 2 ∨ s = 3 ∨ s = 4 ∨ s = 5 ∨ s = 6 ∨ s = 7 ∨ s = 8 ∨ s = 9 ∨ s = 10 ∨ s = 11 ∨ s = 12 ∨ s = 13 ∨ s = 14 ∨ s = 15 ∨ s = 16 ∨ s = 17 ∨ s = 18 ∨ s = 19 ∨ s = 20 ∨ s = 21 ∨ s = 22 ∨ s = 23 ∨ s = 24 ∨ s = 25 ∨ s = 26 ∨ s = 27 ∨ s = 28 ∨ s = 29 ∨ s = 30 ∨ s = 31 by omega) with rfl | rfl | rfl | rfl | rfl | rfl | rfl | rfl | rfl | rfl | rfl | rfl | rfl | rfl | rfl | rfl | rfl | rfl | rfl | rfl | rfl | rfl | rfl | rfl | rfl | rfl | rfl | rfl | rfl | rfl | rfl | rfl <;> rfl
  rw [key, of_nat9 ha]
  have m : (BitVec.ofNat 32 a).msb = false := by
    rw [BitVec.msb_eq_decide, BitVec.toNat_ofNat]
    exact decide_eq_false (by omega)
  rw [BitVec.sshiftRight_eq_of_msb_false m, BitVec.toNat_ushiftRight, BitVec.toNat_ofNat, Nat.mod_eq_of_lt (by omega), Nat.shiftRight_eq_div_pow]
theorem mask_nat9 {a s : Nat} (ha : a < 2147483648) (hs : s < 31) : iand9 (a : Int) ((2 ^ s - 1 : Nat) : Int) = ((a % 2 ^ s : Nat) : Int) := by
  have : 2 ^ s ≤ 2 ^ 30 := Nat.pow_le_pow_right (by decide) (by omega)
  rw [and_nat9 ha (by omega), Nat.and_two_pow_sub_one_eq_mod]
theorem shl_nat9 {s : Nat} (hs : s < 31) : ishl9 1 (s : Int) = ((2 ^ s : Nat) : Int) := by
  rcases (show s = 0 ∨ s = 1 ∨ s = 2 ∨ s = 3 ∨ s = 4 ∨ s = 5 ∨ s = 6 ∨ s = 7 ∨ s = 8 ∨ s = 9 ∨ s = 10 ∨ s = 11 ∨ s = 12 ∨ s = 13 ∨ s = 14 ∨ s = 15 ∨ s = 16 ∨ s = 17 ∨ s = 18 ∨ s = 19 ∨ s = 20 ∨ s = 21 ∨ s = 22 ∨ s = 23 ∨ s = 24 ∨ s = 25 ∨ s = 26 ∨ s = 27 ∨ s = 28 ∨ s = 29 ∨ s = 30 by omega) with rfl | rfl | rfl | rfl | rfl | rfl | rfl | rfl | rfl | rfl | rfl | rfl | rfl | rfl | rfl | rfl | rfl | rfl | rfl | rfl | rfl | rfl | rfl | rfl | rfl | rfl | rfl | rfl | rfl | rfl | rfl <;> rfl
