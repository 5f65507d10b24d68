/-! ===== of ===== -/
theorem and15_n (m : Nat) : nI m &&& 15 = nI (m % 16) := by
  apply Int32.toBitVec_inj.mp
  show BitVec.ofNat 32 m &&& 15#32 = BitVec.ofNat 32 (m % 16)
  apply BitVec.eq_of_toNat_eq
  rw [BitVec.toNat_and, BitVec.toNat_ofNat, BitVec.toNat_ofNat]
  show m % 2 ^ 32 &&& (2 ^ 4 - 1) = _
  rw [Nat.and_two_pow_sub_one_eq_mod, BitVec.toNat_ofNat]
  omega
theorem ushr_w {m i : Nat} (hm : m < 4294967296) (h : i < 32) : ushr (nI m) (nI i) = nI (m >>> i) := by
  apply Int32.toBitVec_inj.mp
  show ((nI m).toUInt32 >>> ((nI i).toUInt32 &&& Int32.toUInt32 31)).toBitVec = _
  apply BitVec.eq_of_toNat_eq
  have : m >>> i ≤ m := Nat.shiftRight_le m i
  rw [UInt32.toNat_toBitVec, UInt32.toNat_shiftRight, amtu_n h, nI_bv, BitVec.toNat_ofNat, Nat.mod_eq_of_lt (by omega)]
  show (BitVec.ofNat 32 m).toNat >>> i = _
  rw [BitVec.toNat_ofNat, Nat.mod_eq_of_lt (by omega)]
theorem snd_n {x j : Nat} (hx : x < 4294967296) (hj : j < 8) : (ushr (nI x) ((4 : Int32) * nI j)) &&& (15 : Int32) = nI (x / 16 ^ j % 16) := by
  rw [show (4 : Int32) = nI 4 from rfl, mul_n, ushr_w hx (by omega), and15_n, Nat.shiftRight_eq_div_pow, Nat.pow_mul]
theorem soundAt_ok {S : St} (hI : I_pcs S) {p j : Nat} (hp : p < nP S) (hj : j < pl S p) : f_X3_soundAt p (nI j) S = some (nI (px S p / 16 ^ j % 16), S) ∧ rd S 55 (8 * p + j) = nI (px S p / 16 ^ j % 16) := by
  obtain ⟨-, -, -, hA⟩ := hI
  obtain ⟨cp, mp, -⟩ := hA p hp
  have hx := cp.x
  have h8 : pl S p ≤ 8 := cp.2.1
  have c0 : rd S (200 + 2 * p) 0 = nI (px S p) := cp.2.2.2.2.2.1
  refine ⟨?_, (mp.2.2.2.2.2.2.2 j hj).1⟩
  unfold f_X3_soundAt
  rw [c0, snd_n hx (Nat.lt_of_lt_of_le hj h8)]
