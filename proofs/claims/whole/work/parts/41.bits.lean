/-! BIT WORDS of naturals -/
theorem n32 {a : Nat} (h : a < 2147483648) : (BitVec.ofNat 32 a).toInt = (a : Int) := by
  rw [BitVec.toInt_eq_toNat_cond, BitVec.toNat_ofNat]
  rw [Nat.mod_eq_of_lt (by omega)]
  rw [if_pos (by omega)]
theorem n64 {a : Nat} (h : a < 9223372036854775808) : (BitVec.ofNat 64 a).toInt = (a : Int) := by
  rw [BitVec.toInt_eq_toNat_cond, BitVec.toNat_ofNat]
  rw [Nat.mod_eq_of_lt (by omega)]
  rw [if_pos (by omega)]
theorem o32 (a : Nat) : (Int32.ofInt (a : Int)).toBitVec = BitVec.ofNat 32 a := BitVec.ofInt_natCast 32 a
theorem o64 (a : Nat) : (Int64.ofInt (a : Int)).toBitVec = BitVec.ofNat 64 a := BitVec.ofInt_natCast 64 a
theorem iand_nat {a b : Nat} (ha : a < 2147483648) (_hb : b < 2147483648) : iandI (a : Int) (b : Int) = ((a &&& b : Nat) : Int) := by
  unfold iandI
  show ((Int32.ofInt (a : Int) &&& Int32.ofInt (b : Int)).toBitVec).toInt = _
  rw [Int32.toBitVec_and, o32, o32, ← BitVec.ofNat_and]
  exact n32 (Nat.lt_of_le_of_lt Nat.and_le_left ha)
theorem land_nat {a b : Nat} (ha : a < 9223372036854775808) (_hb : b < 9223372036854775808) : landI (a : Int) (b : Int) = ((a &&& b : Nat) : Int) := by
  unfold landI
  show ((Int64.ofInt (a : Int) &&& Int64.ofInt (b : Int)).toBitVec).toInt = _
  rw [Int64.toBitVec_and, o64, o64, ← BitVec.ofNat_and]
  exact n64 (Nat.lt_of_le_of_lt Nat.and_le_left ha)
theorem ior_nat {a b : Nat} (ha : a < 2147483648) (hb : b < 2147483648) : iorI (a : Int) (b : Int) = ((a ||| b : Nat) : Int) := by
  unfold iorI
  show ((Int32.ofInt (a : Int) ||| Int32.ofInt (b : Int)).toBitVec).toInt = _
  rw [Int32.toBitVec_or, o32, o32, ← BitVec.ofNat_or]
  exact n32 (Nat.or_lt_two_pow (n := 31) ha hb)
theorem lor_nat {a b : Nat} (ha : a < 9223372036854775808) (hb : b < 9223372036854775808) : lorI (a : Int) (b : Int) = ((a ||| b : Nat) : Int) := by
  unfold lorI
  show ((Int64.ofInt (a : Int) ||| Int64.ofInt (b : Int)).toBitVec).toInt = _
  rw [Int64.toBitVec_or, o64, o64, ← BitVec.ofNat_or]
  exact n64 (Nat.or_lt_two_pow (n := 63) ha hb)
theorem sh32 {k : Nat} (hk : k < 32) : ((Int32.ofInt (k : Int) &&& 31).toBitVec.smod 32) = BitVec.ofNat 32 k := by
  rw [Int32.toBitVec_and, o32]
  exact (by decide : ∀ q : Fin 32, (BitVec.ofNat 32 q.val &&& (31 : Int32).toBitVec).smod 32 = BitVec.ofNat 32 q.val) ⟨k, hk⟩
theorem sh32l {k : Nat} (hk : k < 64) : (((Int32.ofInt (k : Int)).toInt64 &&& 63).toBitVec.smod 64) = BitVec.ofNat 64 k := by
  rw [Int64.toBitVec_and]
  show (BitVec.signExtend 64 (Int32.ofInt (k : Int)).toBitVec &&& (63 : Int64).toBitVec).smod 64 = _
  rw [o32]
  exact (by decide : ∀ q : Fin 64, (BitVec.signExtend 64 (BitVec.ofNat 32 q.val) &&& (63 : Int64).toBitVec).smod 64 = BitVec.ofNat 64 q.val) ⟨k, hk⟩
theorem ishl_nat {a k : Nat} (hk : k < 32) (ha : a * 2 ^ k < 2147483648) : ishlI (a : Int) (k : Int) = ((a * 2 ^ k : Nat) : Int) := by
  unfold ishlI
  show ((Int32.ofInt (a : Int) <<< (Int32.ofInt (k : Int) &&& 31)).toBitVec).toInt = _
  rw [Int32.toBitVec_shiftLeft, sh32 hk, o32]
  rw [BitVec.shiftLeft_eq', BitVec.toNat_ofNat, Nat.mod_eq_of_lt (by omega : k < 2 ^ 32)]
  rw [← n32 ha]
  congr 1
  apply BitVec.eq_of_toNat_eq
  rw [BitVec.toNat_shiftLeft, BitVec.toNat_ofNat, BitVec.toNat_ofNat, Nat.shiftLeft_eq]
  rw [Nat.mod_mul_mod]
theorem ishr_nat {a k : Nat} (hk : k < 32) (ha : a < 2147483648) : ishrI (a : Int) (k : Int) = ((a / 2 ^ k : Nat) : Int) := by
  unfold ishrI
  show ((Int32.ofInt (a : Int) >>> (Int32.ofInt (k : Int) &&& 31)).toBitVec).toInt = _
  rw [Int32.toBitVec_shiftRight, sh32 hk, o32]
  rw [BitVec.sshiftRight_eq', BitVec.toNat_ofNat, Nat.mod_eq_of_lt (by omega : k < 2 ^ 32), BitVec.toInt_sshiftRight, n32 ha, Int.shiftRight_eq_div_pow]
  rfl
theorem lshl_nat {a k : Nat} (hk : k < 64) (ha : a * 2 ^ k < 9223372036854775808) : lshlI (a : Int) (k : Int) = ((a * 2 ^ k : Nat) : Int) := by
  unfold lshlI
  show ((Int64.ofInt (a : Int) <<< ((Int32.ofInt (k : Int)).toInt64 &&& 63)).toBitVec).toInt = _
  rw [Int64.toBitVec_shiftLeft, sh32l hk, o64]
  rw [BitVec.shiftLeft_eq', BitVec.toNat_ofNat, Nat.mod_eq_of_lt (by omega : k < 2 ^ 64)]
  rw [← n64 ha]
  congr 1
  apply BitVec.eq_of_toNat_eq
  rw [BitVec.toNat_shiftLeft, BitVec.toNat_ofNat, BitVec.toNat_ofNat, Nat.shiftLeft_eq]
  rw [Nat.mod_mul_mod]
theorem lshr_nat {a k : Nat} (hk : k < 64) (ha : a < 9223372036854775808) : lshrI (a : Int) (k : Int) = ((a / 2 ^ k : Nat) : Int) := by
  unfold lshrI
  show ((Int64.ofInt (a : Int) >>> ((Int32.ofInt (k : Int)).toInt64 &&& 63)).toBitVec).toInt = _
  rw [Int64.toBitVec_shiftRight, sh32l hk, o64]
  rw [BitVec.sshiftRight_eq', BitVec.toNat_ofNat, Nat.mod_eq_of_lt (by omega : k < 2 ^ 64), BitVec.toInt_sshiftRight, n64 ha, Int.shiftRight_eq_div_pow]
  rfl
theorem ushk {k : Nat} (hk : k < 32) : ((Int32.ofInt (k : Int)).toUInt32 &&& Int32.toUInt32 31).toBitVec.umod 32 = BitVec.ofNat 32 k := by
  show ((Int32.ofInt (k : Int)).toBitVec &&& 31#32).umod 32 = _
  rw [o32]
  exact (by decide : ∀ q : Fin 32, (BitVec.ofNat 32 q.val &&& 31#32).umod 32 = BitVec.ofNat 32 q.val) ⟨k, hk⟩
/-- the unsigned shift, of any int: by its word of 32 bits -/
theorem iushr_any {x : Int} {k : Nat} (h0 : 0 < k) (hk : k < 32) : iushrI x (k : Int) = ((((x % 4294967296).toNat / 2 ^ k : Nat)) : Int) := by
  unfold iushrI
  show (((Int32.ofInt x).toUInt32 >>> ((Int32.ofInt (k : Int)).toUInt32 &&& Int32.toUInt32 31)).toBitVec).toInt = _
  rw [UInt32.toBitVec_shiftRight]
  rw [show ((Int32.ofInt (k : Int)).toUInt32 &&& Int32.toUInt32 31).toBitVec % 32 = BitVec.ofNat 32 k from ushk hk]
  show (BitVec.ofInt 32 x >>> BitVec.ofNat 32 k).toInt = _
  rw [BitVec.ushiftRight_eq', BitVec.toNat_ofNat, Nat.mod_eq_of_lt (by omega : k < 2 ^ 32)]
  rw [BitVec.toInt_eq_toNat_cond, BitVec.toNat_ushiftRight, BitVec.toNat_ofInt, Nat.shiftRight_eq_div_pow]
  have h1 : ((x % ((2 ^ 32 : Nat) : Int)).toNat) < 4294967296 := by
    show (x % 4294967296).toNat < 4294967296
    omega
  have h2 : (x % ((2 ^ 32 : Nat) : Int)).toNat / 2 ^ k ≤ (x % ((2 ^ 32 : Nat) : Int)).toNat / 2 := by
    have : 2 ^ 1 ≤ 2 ^ k := Nat.pow_le_pow_right (by decide) h0
    exact Nat.div_le_div_left this (by decide)
  rw [if_pos (by omega)]
  rfl
