/-! ===== one byte of a long, taken both ways ===== -/
theorem amtl {i : Nat} (h : i < 8) : ((((8 : Int32) * nI i).toInt64 &&& 63).toBitVec.smod 64).toNat = 8 * i ∧ ((((8 : Int32) * nI i).toInt64.toUInt64 &&& Int64.toUInt64 63).toNat % 64) = 8 * i := by
  have : ∀ i : Fin 8, ((((8 : Int32) * nI i.1).toInt64 &&& 63).toBitVec.smod 64).toNat = 8 * i.1 ∧ ((((8 : Int32) * nI i.1).toInt64.toUInt64 &&& Int64.toUInt64 63).toNat % 64) = 8 * i.1 := by decide +kernel
  exact this ⟨i, h⟩
def byt (v : Int64) (i : Nat) : Nat := v.toBitVec.toNat / 2 ^ (8 * i) % 256
theorem byt_lt (v : Int64) (i : Nat) : byt v i < 256 := Nat.mod_lt _ (by decide)
theorem byt_c {i : Nat} (v : Int64) (h : i < 8) : (Int64.toInt32 (lushrv v ((8 : Int32) * nI i))) &&& (255 : Int32) = nI (byt v i) := by
  apply Int32.toBitVec_inj.mp
  show ((v.toUInt64 >>> (((8 : Int32) * nI i).toInt64.toUInt64 &&& Int64.toUInt64 63)).toBitVec.signExtend 32) &&& 255#32 = BitVec.ofNat 32 (byt v i)
  apply BitVec.eq_of_toNat_eq
  rw [BitVec.toNat_and, BitVec.signExtend_eq_setWidth_of_le _ (by decide), BitVec.toNat_setWidth, UInt64.toNat_toBitVec, UInt64.toNat_shiftRight, (amtl h).2]
  show v.toBitVec.toNat >>> (8 * i) % 2 ^ 32 &&& (2 ^ 8 - 1) = _
  rw [Nat.and_two_pow_sub_one_eq_mod, Nat.shiftRight_eq_div_pow, BitVec.toNat_ofNat]
  have := byt_lt v i
  unfold byt at *
  omega
