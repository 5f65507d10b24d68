theorem sshr_and (x : BitVec 64) (n : Nat) (h : n ≤ 56) : x.sshiftRight n &&& 255#64 = (x >>> n) &&& 255#64 := by
  apply BitVec.eq_of_getLsbD_eq
  intro k hk
  rw [BitVec.getLsbD_and, BitVec.getLsbD_and]
  by_cases c : k < 8
  · rw [BitVec.getLsbD_sshiftRight, BitVec.getLsbD_ushiftRight]
    have h1 : decide (64 ≤ k) = false := decide_eq_false (by omega)
    rw [h1, if_pos (by omega)]; rfl
  · have : (255#64).getLsbD k = false := by
      show (255 % 2 ^ 64).testBit k = false
      exact Nat.testBit_lt_two_pow (Nat.lt_of_lt_of_le (show 255 % 2 ^ 64 < 2 ^ 8 by decide) (Nat.pow_le_pow_right (by decide) (by omega)))
    rw [this, Bool.and_false, Bool.and_false]
theorem byt_m {i : Nat} (v : Int64) (h : i < 8) : Int64.toInt32 ((lshrv v ((8 : Int32) * nI i)) &&& (255 : Int64)) = nI (byt v i) := by
  apply Int32.toBitVec_inj.mp
  show (BitVec.sshiftRight v.toBitVec ((((8 : Int32) * nI i).toInt64 &&& 63).toBitVec.smod 64).toNat &&& 255#64).signExtend 32 = BitVec.ofNat 32 (byt v i)
  rw [(amtl h).1, sshr_and _ _ (by omega)]
  apply BitVec.eq_of_toNat_eq
  rw [BitVec.signExtend_eq_setWidth_of_le _ (by decide), BitVec.toNat_setWidth, BitVec.toNat_and, BitVec.toNat_ushiftRight]
  show (v.toBitVec.toNat >>> (8 * i) &&& (2 ^ 8 - 1)) % 2 ^ 32 = _
  rw [Nat.and_two_pow_sub_one_eq_mod, Nat.shiftRight_eq_div_pow, BitVec.toNat_ofNat]
  rfl
