/-! BITS -/
def bt (a : Int) (i : Nat) : Bool := a.toNat.testBit i
theorem bvI (a : Nat) : (Int32.ofInt (a : Int)).toBitVec = BitVec.ofNat 32 a := by
  rw [Int32.toBitVec_ofInt]; exact BitVec.ofInt_natCast ..
theorem bvN {a : Nat} (h : a < 2147483648) : (Int32.ofInt (a : Int)).toBitVec.toNat = a := by
  rw [bvI, BitVec.toNat_ofNat]; omega
theorem i32_bv (x : Int32) (n : Nat) (h : x.toBitVec.toNat = n) (h2 : n < 2147483648) : x.toInt = n := by
  rw [← Int32.toInt_toBitVec, BitVec.toInt_eq_toNat_of_lt (by omega), h]
theorem or_lt31 {a b : Nat} (ha : a < 2147483648) (hb : b < 2147483648) : a ||| b < 2147483648 := Nat.or_lt_two_pow (n := 31) ha hb
theorem and_lt31 {a b : Nat} (ha : a < 2147483648) : a &&& b < 2147483648 := Nat.lt_of_le_of_lt Nat.and_le_left ha
theorem kior_nat {a b : Nat} (ha : a < 2147483648) (hb : b < 2147483648) : kior a b = ((a ||| b : Nat) : Int) := by
  unfold kior
  apply i32_bv _ _ _ (or_lt31 ha hb)
  rw [Int32.toBitVec_or, BitVec.toNat_or, bvN ha, bvN hb]
theorem kiand_nat {a b : Nat} (ha : a < 2147483648) (hb : b < 2147483648) : kiand a b = ((a &&& b : Nat) : Int) := by
  unfold kiand
  apply i32_bv _ _ _ (and_lt31 ha)
  rw [Int32.toBitVec_and, BitVec.toNat_and, bvN ha, bvN hb]
theorem kishl_one : ∀ p : Nat, p < 31 → kishl 1 (p : Int) = ((2 ^ p : Nat) : Int) := by decide +kernel
theorem pow_lt31 {p : Nat} (h : p < 31) : 2 ^ p < 2147483648 := Nat.pow_lt_pow_right (a := 2) (by omega) h
theorem shr_u : ∀ p : Nat, p < 32 → ((Int32.ofInt (p : Int)).toUInt32 &&& Int32.toUInt32 31).toBitVec % 32#32 = BitVec.ofNat 32 p := by decide +kernel
theorem shr_s : ∀ p : Nat, p < 32 → (Int32.ofInt (p : Int) &&& 31).toBitVec.smod 32#32 = BitVec.ofNat 32 p := by decide +kernel
theorem kiushr_nat {a p : Nat} (ha : a < 2147483648) (hp : p < 32) : kiushr a p = ((a >>> p : Nat) : Int) := by
  unfold kiushr
  have hlt : a >>> p < 2147483648 := Nat.lt_of_le_of_lt (Nat.shiftRight_le _ _) ha
  apply i32_bv _ _ _ hlt
  have e : ((Int32.ofInt (a : Int)).toUInt32 >>> ((Int32.ofInt (p : Int)).toUInt32 &&& Int32.toUInt32 31)).toInt32.toBitVec = (Int32.ofInt (a : Int)).toBitVec >>> (((Int32.ofInt (p : Int)).toUInt32 &&& Int32.toUInt32 31).toBitVec % 32#32) := rfl
  rw [e, shr_u p hp]
  show ((Int32.ofInt (a : Int)).toBitVec >>> (BitVec.ofNat 32 p).toNat).toNat = _
  rw [BitVec.toNat_ushiftRight, bvN ha, BitVec.toNat_ofNat, Nat.mod_eq_of_lt (by omega)]
theorem kishr_nat {a p : Nat} (ha : a < 2147483648) (hp : p < 32) : kishr a p = ((a >>> p : Nat) : Int) := by
  unfold kishr
  have hlt : a >>> p < 2147483648 := Nat.lt_of_le_of_lt (Nat.shiftRight_le _ _) ha
  apply i32_bv _ _ _ hlt
  have e : (Int32.ofInt (a : Int) >>> (Int32.ofInt (p : Int) &&& 31)).toBitVec = (Int32.ofInt (a : Int)).toBitVec.sshiftRight' ((Int32.ofInt (p : Int) &&& 31).toBitVec.smod 32#32) := rfl
  rw [e, shr_s p hp, BitVec.toNat_sshiftRight'_of_msb_false, bvN ha, BitVec.toNat_ofNat, Nat.mod_eq_of_lt (by omega)]
  rw [BitVec.msb_eq_decide, bvN ha]
  exact decide_eq_false (by omega)
theorem shr_and1 (a p : Nat) : (a >>> p) &&& 1 = if a.testBit p then 1 else 0 := by
  rw [Nat.and_one_is_mod, Nat.testBit_eq_decide_div_mod_eq, Nat.shiftRight_eq_div_pow]
  by_cases h : a / 2 ^ p % 2 = 1
  · rw [h]; simp
  · simp only [h, decide_false]
    have := Nat.mod_two_eq_zero_or_one (a / 2 ^ p)
    simp; omega
theorem bt_hi {a : Int} {i : Nat} (ha : a < 2147483648) (hi : 31 ≤ i) : bt a i = false := by
  unfold bt
  exact Nat.testBit_lt_two_pow (Nat.lt_of_lt_of_le (by omega : a.toNat < 2 ^ 31) (Nat.pow_le_pow_right (by omega) hi))
theorem isInV_bt {a i : Int} (ha : 0 ≤ a) (ha2 : a < 2147483648) : isInV a i = if 0 ≤ i ∧ bt a i.toNat = true then 1 else 0 := by
  unfold isInV
  by_cases hi : 0 ≤ i
  · by_cases hi2 : i < 32
    · obtain ⟨n, rfl⟩ := Int.eq_ofNat_of_zero_le ha
      obtain ⟨j, rfl⟩ := Int.eq_ofNat_of_zero_le hi
      have e : kiand (kiushr n j) 1 = ((if n.testBit j then 1 else 0 : Nat) : Int) := by
        rw [kiushr_nat (by omega) (by omega)]
        have hlt : n >>> j < 2147483648 := Nat.lt_of_le_of_lt (Nat.shiftRight_le _ _) (by omega)
        have := kiand_nat (b := 1) hlt (by omega)
        rw [shr_and1] at this
        exact this
      have e2 : bt (n : Int) (j : Int).toNat = n.testBit j := rfl
      rw [e, e2]
      by_cases hb : n.testBit j
      · simp [hb]; omega
      · simp [hb]
    · rw [if_neg (by omega), if_neg]
      rintro ⟨-, h⟩
      rw [bt_hi ha2 (by omega)] at h
      cases h
  · rw [if_neg (by omega), if_neg (by omega)]
theorem isInV_01 (a i : Int) : isInV a i = 0 ∨ isInV a i = 1 := by unfold isInV; split <;> simp
theorem kishr_bt {a : Int} {i : Nat} (ha : 0 ≤ a) (ha2 : a < 2147483648) (hi : i < 32) : kiand (kishr a i) 1 = if bt a i = true then 1 else 0 := by
  obtain ⟨n, rfl⟩ := Int.eq_ofNat_of_zero_le ha
  rw [kishr_nat (by omega) hi]
  have hlt : n >>> i < 2147483648 := Nat.lt_of_le_of_lt (Nat.shiftRight_le _ _) (by omega)
  have := kiand_nat (b := 1) hlt (by omega)
  rw [shr_and1] at this
  rw [show (1 : Int) = ((1 : Nat) : Int) from rfl, this]
  show _ = if n.testBit i = true then _ else _
  split <;> rfl
theorem kior_bit {a : Int} {p : Nat} (ha : 0 ≤ a) (ha2 : a < 2147483648) (hp : p < 31) : 0 ≤ kior a (kishl 1 p) ∧ kior a (kishl 1 p) < 2147483648 ∧ ∀ i, bt (kior a (kishl 1 p)) i = (bt a i || decide (i = p)) := by
  obtain ⟨n, rfl⟩ := Int.eq_ofNat_of_zero_le ha
  rw [kishl_one p hp, kior_nat (by omega) (pow_lt31 hp)]
  have := or_lt31 (a := n) (b := 2 ^ p) (by omega) (pow_lt31 hp)
  refine ⟨by omega, by omega, fun i => ?_⟩
  show (n ||| 2 ^ p).testBit i = (n.testBit i || _)
  rw [Nat.testBit_or, Nat.testBit_two_pow]
  congr 1
  exact decide_eq_decide.mpr eq_comm
theorem kiclr_bit {a : Int} {p : Nat} (ha : 0 ≤ a) (ha2 : a < 2147483648) (hp : p < 31) : 0 ≤ kiand a (kixor (kishl 1 p) (-1)) ∧ kiand a (kixor (kishl 1 p) (-1)) < 2147483648 ∧ ∀ i, bt (kiand a (kixor (kishl 1 p) (-1))) i = (bt a i && !decide (i = p)) := by
  obtain ⟨n, rfl⟩ := Int.eq_ofNat_of_zero_le ha
  have e0 : ∀ q : Nat, q < 31 → (Int32.ofInt (kixor (kishl 1 (q : Int)) (-1))).toBitVec.toNat = 2 ^ 32 - (2 ^ q + 1) := by decide +kernel
  have e : kiand n (kixor (kishl 1 p) (-1)) = ((n &&& (2 ^ 32 - (2 ^ p + 1)) : Nat) : Int) := by
    unfold kiand
    apply i32_bv _ _ _ (and_lt31 (by omega))
    rw [Int32.toBitVec_and, BitVec.toNat_and, bvN (by omega), e0 p hp]
  have := and_lt31 (a := n) (b := 2 ^ 32 - (2 ^ p + 1)) (by omega)
  rw [e]
  refine ⟨by omega, by omega, fun i => ?_⟩
  show (n &&& (2 ^ 32 - (2 ^ p + 1))).testBit i = (n.testBit i && _)
  rw [Nat.testBit_and, Nat.testBit_two_pow_sub_succ (by have := pow_lt31 hp; omega), Nat.testBit_two_pow]
  by_cases hi : i < 32
  · simp only [hi, decide_true, Bool.true_and]
    congr 2
    exact decide_eq_decide.mpr eq_comm
  · have : n.testBit i = false := Nat.testBit_lt_two_pow (Nat.lt_of_lt_of_le (by omega : n < 2 ^ 31) (Nat.pow_le_pow_right (by omega) (by omega)))
    rw [this, Bool.false_and, Bool.false_and]
theorem bt_ext {a b : Int} (ha : 0 ≤ a) (hb : 0 ≤ b) (h : ∀ i, bt a i = bt b i) : a = b := by
  have : a.toNat = b.toNat := Nat.eq_of_testBit_eq h
  omega
/-- what comes of bits below 8 -/
theorem bt_lt8 {a : Int} (h0 : 0 ≤ a) {n : Nat} (h : ∀ i, n ≤ i → bt a i = false) : a < ((2 ^ n : Nat) : Int) := by
  have : a.toNat < 2 ^ n := Nat.lt_pow_two_of_testBit _ h
  omega
theorem bt_sub : ∀ a : Nat, a < 256 → ∀ p : Nat, p < 8 → bt a p = true → kiand a (kixor (kishl 1 p) (-1)) = (a : Int) - 2 ^ p := by decide +kernel
theorem bt_sub2 : ∀ a : Nat, a < 256 → ∀ p : Nat, p < 8 → bt a p = true → w32 ((a : Int) - kishl 1 p) = (a : Int) - 2 ^ p := by decide +kernel
/-- how many of the bits below 8 -/
def pop8 (a : Int) : Nat := (List.range 8).countP fun i => bt a i
theorem e_bitCount {a : Int} (M : KM) (h0 : 0 ≤ a) (h1 : a < 256) : f_JI_bitCount a M = some (pop8 a : Int) := by
  obtain ⟨n, rfl⟩ := Int.eq_ofNat_of_zero_le h0
  have key : ∀ M : KM, ∀ n : Nat, n < 256 → f_JI_bitCount n (fun _ _ => 0) = some (pop8 n : Int) := fun _ => by decide +kernel
  have e : f_JI_bitCount n M = f_JI_bitCount n (fun _ _ => 0) := rfl
  rw [e]
  exact key M n (by omega)
