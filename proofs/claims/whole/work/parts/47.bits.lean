/-! sets as numbers -/
theorem i32_nat {w : Nat} (h : w < 2147483648) : (Int32.ofInt (w : Int)).toBitVec = BitVec.ofNat 32 w := by
  apply BitVec.eq_of_toInt_eq
  have h1 : (Int32.ofInt (w : Int)).toBitVec.toInt = (w : Int) := i32_toInt (z := (w : Int)) ⟨by omega, by omega⟩
  rw [h1, BitVec.toInt_ofNat']
  rw [Int.bmod_eq_of_le (by show -((4294967296 : Int) / 2) ≤ (w : Int); omega) (by show (w : Int) < ((4294967296 : Int) + 1) / 2; omega)]
theorem i32_back {x : Int32} (h : x.toBitVec.toNat < 2147483648) : x.toInt = (x.toBitVec.toNat : Int) := by
  show x.toBitVec.toInt = _
  exact BitVec.toInt_eq_toNat_of_lt (by omega)
theorem iand_nat {a b : Nat} (ha : a < 2147483648) (hb : b < 2147483648) : iand (a : Int) (b : Int) = ((a &&& b : Nat) : Int) := by
  unfold iand
  have h1 : (Int32.ofInt (a : Int) &&& Int32.ofInt (b : Int)).toBitVec.toNat = a &&& b := by
    rw [Int32.toBitVec_and, i32_nat ha, i32_nat hb, BitVec.toNat_and, BitVec.toNat_ofNat, BitVec.toNat_ofNat, Nat.mod_eq_of_lt (by omega), Nat.mod_eq_of_lt (by omega)]
  have h2 : a &&& b ≤ a := Nat.and_le_left
  rw [i32_back (by rw [h1]; omega), h1]
theorem ior_nat {a b : Nat} (ha : a < 2147483648) (hb : b < 2147483648) : ior (a : Int) (b : Int) = ((a ||| b : Nat) : Int) := by
  unfold ior
  have h1 : (Int32.ofInt (a : Int) ||| Int32.ofInt (b : Int)).toBitVec.toNat = a ||| b := by
    rw [Int32.toBitVec_or, i32_nat ha, i32_nat hb, BitVec.toNat_or, BitVec.toNat_ofNat, BitVec.toNat_ofNat, Nat.mod_eq_of_lt (by omega), Nat.mod_eq_of_lt (by omega)]
  have h2 : a ||| b < 2 ^ 31 := Nat.or_lt_two_pow (by omega) (by omega)
  rw [i32_back (by rw [h1]; omega), h1]
theorem ixor_nat {a b : Nat} (ha : a < 2147483648) (hb : b < 2147483648) : ixor (a : Int) (b : Int) = ((a ^^^ b : Nat) : Int) := by
  unfold ixor
  have h1 : (Int32.ofInt (a : Int) ^^^ Int32.ofInt (b : Int)).toBitVec.toNat = a ^^^ b := by
    rw [Int32.toBitVec_xor, i32_nat ha, i32_nat hb, BitVec.toNat_xor, BitVec.toNat_ofNat, BitVec.toNat_ofNat, Nat.mod_eq_of_lt (by omega), Nat.mod_eq_of_lt (by omega)]
  have h2 : a ^^^ b < 2 ^ 31 := Nat.xor_lt_two_pow (by omega) (by omega)
  rw [i32_back (by rw [h1]; omega), h1]
theorem ishl_one : ∀ k : Fin 31, ishl 1 ((k : Nat) : Int) = ((2 ^ (k : Nat) : Nat) : Int) := by decide +kernel
theorem shm : ∀ k : Fin 32, (Int32.ofInt ((k : Nat) : Int) &&& 31).toBitVec.smod 32 = BitVec.ofNat 32 (k : Nat) := by decide +kernel
theorem ishr_nat {a k : Nat} (ha : a < 2147483648) (hk : k < 32) : ishr (a : Int) (k : Int) = ((a / 2 ^ k : Nat) : Int) := by
  unfold ishr
  have h1 : (Int32.ofInt (a : Int) >>> (Int32.ofInt (k : Int) &&& 31)).toInt = (a : Int) / ((2 ^ k : Nat) : Int) := by
    show ((Int32.ofInt (a : Int) >>> (Int32.ofInt (k : Int) &&& 31)).toBitVec).toInt = _
    rw [Int32.toBitVec_shiftRight, shm ⟨k, hk⟩, BitVec.sshiftRight_eq', BitVec.toNat_ofNat, Nat.mod_eq_of_lt (by omega), BitVec.toInt_sshiftRight, i32_nat ha, BitVec.toInt_ofNat']
    rw [Int.bmod_eq_of_le (by show -((4294967296 : Int) / 2) ≤ (a : Int); omega) (by show (a : Int) < ((4294967296 : Int) + 1) / 2; omega), Int.shiftRight_eq_div_pow]
  rw [h1]; rfl
theorem hasM_eq {a k : Nat} (ha : a < 2147483648) (hk : k < 32) : fX11_hasMember (a : Int) (k : Int) = some (b2i (a.testBit k = true)) := by
  unfold fX11_hasMember
  have h0 : a / 2 ^ k ≤ a := Nat.div_le_self _ _
  rw [ishr_nat ha hk]
  have h1 : iand ((a / 2 ^ k : Nat) : Int) 1 = ((a / 2 ^ k &&& 1 : Nat) : Int) := iand_nat (b := 1) (by omega) (by omega)
  rw [h1, Nat.and_one_is_mod]
  have h2 : a.testBit k = decide (a / 2 ^ k % 2 = 1) := Nat.testBit_eq_decide_div_mod_eq
  rw [h2]
  by_cases c : a / 2 ^ k % 2 = 1
  · rw [c, if_neg (by decide), b2i_pos (by simp)]
  · have : a / 2 ^ k % 2 = 0 := by omega
    rw [this, if_pos (by decide), b2i_neg (by simp)]
theorem clr_nat {a k : Nat} (ha : a < 2147483648) (hk : k < 31) : ∃ v : Nat, iand (a : Int) (ixor (ishl 1 (k : Int)) (-1)) = (v : Int) ∧ v ≤ a ∧ ∀ i, v.testBit i = (a.testBit i && decide (i ≠ k)) := by
  have hp : 2 ^ k < 2147483648 := by
    have : 2 ^ k ≤ 2 ^ 30 := Nat.pow_le_pow_right (by omega) (by omega)
    omega
  rw [ishl_one ⟨k, hk⟩]
  unfold iand ixor
  rw [i32_of]
  have h1 : (Int32.ofInt (a : Int) &&& (Int32.ofInt ((2 ^ k : Nat) : Int) ^^^ Int32.ofInt (-1))).toBitVec.toNat = a &&& (2 ^ k ^^^ (2 ^ 32 - 1)) := by
    rw [Int32.toBitVec_and, Int32.toBitVec_xor, i32_nat ha, i32_nat hp, BitVec.toNat_and, BitVec.toNat_xor, BitVec.toNat_ofNat, BitVec.toNat_ofNat, Nat.mod_eq_of_lt (by omega), Nat.mod_eq_of_lt (by omega)]
    have : (Int32.ofInt (-1)).toBitVec.toNat = 2 ^ 32 - 1 := by decide
    rw [this]
  have h2 : a &&& (2 ^ k ^^^ (2 ^ 32 - 1)) ≤ a := Nat.and_le_left
  refine ⟨a &&& (2 ^ k ^^^ (2 ^ 32 - 1)), by rw [i32_back (by rw [h1]; omega), h1], h2, fun i => ?_⟩
  rw [Nat.testBit_and, Nat.testBit_xor, Nat.testBit_two_pow_sub_one, Nat.testBit_two_pow]
  by_cases hi : i < 32
  · by_cases q : i = k
    · subst q; simp [hi]
    · have : ¬ k = i := fun z => q z.symm
      simp [hi, q, this]
  · have : a.testBit i = false := Nat.testBit_lt_two_pow (Nat.lt_of_lt_of_le (show a < 2 ^ 31 by omega) (Nat.pow_le_pow_right (by omega) (by omega)))
    rw [this]; rfl
theorem lt_pow_of_bits {v n : Nat} (h : ∀ i, n ≤ i → v.testBit i = false) : v < 2 ^ n := Nat.lt_pow_two_of_testBit v (fun i hi => h i hi)
/-- a member put in or out -/
theorem withM_eq {a k n : Nat} (b : Int) (ha : a < 2 ^ n) (hk : k < n) (hn : n < 31) : ∃ v : Nat, fX11_withMember (a : Int) (k : Int) b = some (v : Int) ∧ v < 2 ^ n ∧ ∀ i, v.testBit i = if i = k then decide (b ≠ 0) else a.testBit i := by
  have hp : 2 ^ n ≤ 2 ^ 30 := Nat.pow_le_pow_right (by omega) (by omega)
  unfold fX11_withMember
  by_cases hb : b = 0
  · obtain ⟨v, h1, h2, h3⟩ := clr_nat (a := a) (k := k) (by omega) (by omega)
    refine ⟨v, by rw [if_pos hb, h1], by omega, fun i => ?_⟩
    rw [h3 i]
    by_cases q : i = k
    · simp [q, hb]
    · simp [q]
  · have hp2 : 2 ^ k < 2 ^ n := Nat.pow_lt_pow_right (by omega) hk
    refine ⟨a ||| 2 ^ k, ?_, Nat.or_lt_two_pow ha hp2, fun i => ?_⟩
    · have e : ishl 1 (k : Int) = ((2 ^ k : Nat) : Int) := ishl_one ⟨k, by omega⟩
      rw [if_neg hb, e, ior_nat (by omega) (by omega)]
    · rw [Nat.testBit_or, Nat.testBit_two_pow]
      by_cases q : i = k
      · simp [q, hb]
      · have : ¬ k = i := fun z => q z.symm
        simp [q, this]
