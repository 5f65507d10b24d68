/-! ===== the pure side: shifts, what is kept ===== -/
theorem amt_n {i : Nat} (h : i < 32) : ((nI i &&& 31).toBitVec.smod 32).toNat = i := by
  have : ∀ i : Fin 32, ((nI i.1 &&& 31).toBitVec.smod 32).toNat = i.1 := by decide +kernel
  exact this ⟨i, h⟩
theorem amtu_n {i : Nat} (h : i < 32) : (((nI i).toUInt32 &&& Int32.toUInt32 31).toNat % 32) = i := by
  have : ∀ i : Fin 32, (((nI i.1).toUInt32 &&& Int32.toUInt32 31).toNat % 32) = i.1 := by decide +kernel
  exact this ⟨i, h⟩
theorem nI_bv (n : Nat) : (nI n).toBitVec = BitVec.ofNat 32 n := rfl
theorem sshr_n {m i : Nat} (hm : m < 2147483648) (h : i < 32) : nI m >>> (nI i &&& 31) = nI (m >>> i) := by
  apply Int32.toBitVec_inj.mp
  show BitVec.sshiftRight (nI m).toBitVec ((nI i &&& 31).toBitVec.smod 32).toNat = _
  rw [amt_n h, nI_bv, nI_bv, BitVec.sshiftRight_eq_of_msb_false (by rw [BitVec.msb_eq_decide]; simp; omega)]
  apply BitVec.eq_of_toNat_eq
  have : m >>> i ≤ m := Nat.shiftRight_le m i
  rw [BitVec.toNat_ushiftRight, BitVec.toNat_ofNat, BitVec.toNat_ofNat, Nat.mod_eq_of_lt (by omega), Nat.mod_eq_of_lt (by omega)]
theorem ushr_n {m i : Nat} (hm : m < 2147483648) (h : i < 32) : ushr (nI m) (nI i) = nI (m >>> i) := by
  apply Int32.toBitVec_inj.mp
  show ((nI m).toUInt32 >>> ((nI i).toUInt32 &&& Int32.toUInt32 31)).toBitVec = _
  apply BitVec.eq_of_toNat_eq
  have : m >>> i ≤ m := Nat.shiftRight_le m i
  rw [UInt32.toNat_toBitVec, UInt32.toNat_shiftRight, amtu_n h, nI_bv, BitVec.toNat_ofNat, Nat.mod_eq_of_lt (by omega)]
  show (BitVec.ofNat 32 m).toNat >>> i = _
  rw [BitVec.toNat_ofNat, Nat.mod_eq_of_lt (by omega)]
theorem and1_n (m : Nat) : nI m &&& 1 = nI (m % 2) := by
  apply Int32.toBitVec_inj.mp
  show BitVec.ofNat 32 m &&& 1#32 = BitVec.ofNat 32 (m % 2)
  apply BitVec.eq_of_toNat_eq
  rw [BitVec.toNat_and, BitVec.toNat_ofNat, BitVec.toNat_ofNat]
  show m % 2 ^ 32 &&& 1 = _
  rw [Nat.and_one_is_mod, BitVec.toNat_ofNat]
  omega
/-- bit i of m -/
def tb (m i : Nat) : Bool := m.testBit i
theorem tb_c {m i : Nat} (hm : m < 2147483648) (h : i < 32) : ((ushr (nI m) (nI i) &&& (1 : Int32)) = (1 : Int32)) = (tb m i = true) := by
  rw [ushr_n hm h, and1_n, lit, eq_n (by omega) (by decide)]
  apply propext
  unfold tb
  rw [Nat.testBit_eq_decide_div_mod_eq, Nat.shiftRight_eq_div_pow]
  simp
theorem tb_m {m i : Nat} (hm : m < 2147483648) (h : i < 32) : ((nI m >>> (nI i &&& 31) &&& (1 : Int32)) = (1 : Int32)) = (tb m i = true) := by
  rw [sshr_n hm h, ← ushr_n hm h, tb_c hm h]
/-- what is kept: the cells outside W -/
def kp (W : Nat → Bool) (S S' : St) : Prop := ∀ c, W c = false → (∀ j, rd S' c j = rd S c j) ∧ (∀ j, rl S' c j = rl S c j)
theorem kp.refl (W : Nat → Bool) (S : St) : kp W S S := fun _ _ => ⟨fun _ => rfl, fun _ => rfl⟩
theorem kp.trans {W : Nat → Bool} {S S1 S2 : St} (h1 : kp W S S1) (h2 : kp W S1 S2) : kp W S S2 := fun c h => ⟨fun j => ((h2 c h).1 j).trans ((h1 c h).1 j), fun j => ((h2 c h).2 j).trans ((h1 c h).2 j)⟩
theorem kp.mono {W W' : Nat → Bool} {S S1 : St} (h1 : kp W S S1) (h : ∀ c, W' c = false → W c = false) : kp W' S S1 := fun c hc => h1 c (h c hc)
theorem kp.wr {W : Nat → Bool} (S : St) (c j : Nat) (v : Int32) (h : W c = true) : kp W S (wr S c j v) := fun c' h' => by
  have : c' ≠ c := by intro e; rw [e, h] at h'; cases h'
  exact ⟨fun k => by rw [rd_wr, if_neg (by intro e; exact this e.1)], fun k => rl_wr ..⟩
theorem kp.wl {W : Nat → Bool} (S : St) (c j : Nat) (v : Int64) (h : W c = true) : kp W S (wl S c j v) := fun c' h' => by
  have : c' ≠ c := by intro e; rw [e, h] at h'; cases h'
  exact ⟨fun k => rd_wl .., fun k => by rw [rl_wl, if_neg (by intro e; exact this e.1)]⟩
