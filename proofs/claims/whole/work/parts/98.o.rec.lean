/-! ===== record: numbers ===== -/
theorem lN_bv (n : Nat) : (lN n).toBitVec = BitVec.ofNat 64 n := rfl
theorem lor_n {a b : Nat} (ha : a < 2 ^ 63) (hb : b < 2 ^ 63) : lN a ||| lN b = lN (a ||| b) := by
  apply Int64.toBitVec_inj.mp
  show BitVec.ofNat 64 a ||| BitVec.ofNat 64 b = BitVec.ofNat 64 (a ||| b)
  apply BitVec.eq_of_toNat_eq
  have : a ||| b < 2 ^ 63 := Nat.or_lt_two_pow ha hb
  rw [BitVec.toNat_or, BitVec.toNat_ofNat, BitVec.toNat_ofNat, BitVec.toNat_ofNat, Nat.mod_eq_of_lt (by omega), Nat.mod_eq_of_lt (by omega), Nat.mod_eq_of_lt (by omega)]
theorem lshl_n {i : Nat} (h : i ≤ 36) : lshlv (1 : Int64) (nI i) = lN (2 ^ i) := by
  have : ∀ i : Fin 37, lshlv (1 : Int64) (nI i.1) = lN (2 ^ i.1) := by decide +kernel
  exact this ⟨i, by omega⟩
theorem full_n {i : Nat} (h : i ≤ 36) : lshlv (1 : Int64) (nI i) - (1 : Int64) = lN (2 ^ i - 1) := by
  rw [lshl_n h, show (1 : Int64) = lN 1 from rfl, lN_sub (Nat.one_le_two_pow)]
theorem lcmp {a b : Nat} (ha : a < 2 ^ 63) (hb : b < 2 ^ 63) : (lg_cmp (lN a) (lN b) = 0) ↔ a = b := by
  rw [lg0, pk_lEQ ha hb]
theorem p36 {i : Nat} (h : i ≤ 36) : 2 ^ i ≤ 2 ^ 36 := Nat.pow_le_pow_right (by decide) h
theorem full_iff {b n : Nat} (hb : ∀ i, n ≤ i → tb b i = false) : b = 2 ^ n - 1 ↔ ∀ i, i < n → tb b i = true := by
  constructor
  · intro h i hi
    rw [h]; unfold tb
    rw [Nat.testBit_two_pow_sub_one]; exact decide_eq_true hi
  · intro h
    apply Nat.eq_of_testBit_eq
    intro i
    rw [Nat.testBit_two_pow_sub_one]
    by_cases c : i < n
    · rw [decide_eq_true c]; exact h i c
    · rw [decide_eq_false c]; exact hb i (by omega)
theorem shl17 {l : Nat} (h : l ≤ 16) : (1 : Int32) <<< (nI l &&& 31) = nI (2 ^ l) := by
  have : ∀ l : Fin 17, (1 : Int32) <<< (nI l.1 &&& 31) = nI (2 ^ l.1) := by decide +kernel
  exact this ⟨l, by omega⟩
theorem sub_bits {m n : Nat} (hm : m < 131072) (hn : n < 131072) : ((nI m &&& (nI n ^^^ (-1 : Int32))) = 0) ↔ ∀ b, b < 17 → tb m b = true → tb n b = true := by
  have e : ((nI m &&& (nI n ^^^ (-1 : Int32))) = 0) ↔ (m &&& (n ^^^ 4294967295)) = 0 := by
    have e1 : nI m &&& (nI n ^^^ (-1 : Int32)) = nI (m &&& (n ^^^ 4294967295)) := by
      apply Int32.toBitVec_inj.mp
      show BitVec.ofNat 32 m &&& (BitVec.ofNat 32 n ^^^ BitVec.ofNat 32 4294967295) = BitVec.ofNat 32 (m &&& (n ^^^ 4294967295))
      apply BitVec.eq_of_toNat_eq
      have h1 : m &&& (n ^^^ 4294967295) ≤ m := Nat.and_le_left
      rw [BitVec.toNat_and, BitVec.toNat_xor, BitVec.toNat_ofNat, BitVec.toNat_ofNat, BitVec.toNat_ofNat, BitVec.toNat_ofNat, Nat.mod_eq_of_lt (by omega), Nat.mod_eq_of_lt (by omega), Nat.mod_eq_of_lt (by omega), Nat.mod_eq_of_lt (by omega)]
    have h1 : m &&& (n ^^^ 4294967295) ≤ m := Nat.and_le_left
    rw [e1, show (0 : Int32) = nI 0 from rfl, eq_n (by omega) (by omega)]
  rw [e]
  have h32 : ∀ b, b < 17 → Nat.testBit 4294967295 b = true := by decide
  constructor
  · intro h b hb h1
    have := congrArg (fun x => x.testBit b) h
    simp only [Nat.testBit_and, Nat.testBit_xor, Nat.zero_testBit, h32 b hb] at this
    unfold tb at h1 ⊢
    rw [h1] at this
    cases h2 : n.testBit b
    · rw [h2] at this; simp at this
    · rfl
  · intro h
    apply Nat.eq_of_testBit_eq
    intro b
    rw [Nat.testBit_and, Nat.testBit_xor, Nat.zero_testBit]
    by_cases c : b < 17
    · cases h1 : m.testBit b
      · rfl
      · have h2 : n.testBit b = true := h b c h1
        rw [h2, h32 b c]; rfl
    · rw [show m.testBit b = false from Nat.testBit_lt_two_pow (Nat.lt_of_lt_of_le hm (show 2 ^ 17 ≤ 2 ^ b from Nat.pow_le_pow_right (by decide) (by omega)))]; rfl
theorem bits16 {m : Nat} (h : m < 256) : pcn m 16 = pcn m 8 := pcn_up (l := 8) h 8
theorem sset_bit {m i : Nat} (hm : m < 256) (hi : i < 16) : (nI m >>> (nI i &&& 31)) &&& (1 : Int32) = nI (if tb m i then 1 else 0) := by
  have : ∀ m : Fin 256, ∀ i : Fin 16, (nI m.1 >>> (nI i.1 &&& 31)) &&& (1 : Int32) = nI (if tb m.1 i.1 then 1 else 0) := by decide +kernel
  exact this ⟨m, hm⟩ ⟨i, hi⟩
theorem bits_ok {m : Nat} (h : m < 256) (S : St) : f_X11_bits (nI m) S = some (nI (pcn m 8), S) := by
  unfold f_X11_bits
  refine loopC (fun f (_ : Unit) i => f_X11_bits_L4 (fun x6 S7 => some (x6, S7)) (nI m) f (nI (pcn m i)) (nI i) S) (fun x => x = some (nI (pcn m 8), S)) (fun _ _ => True) 16 ?_ ?_ 16 0 FU () (by omega) (by unfold FU; omega) trivial
  · intro f _ _
    show f_X11_bits_L4 _ _ _ _ _ _ = _
    rw [f_X11_bits_L4, if_pos (show (16 : Int32) ≤ nI 16 from Int32.le_refl _), bits16 h]
  · intro f _ i hi _
    right
    refine ⟨(), ?_, trivial⟩
    show f_X11_bits_L4 _ _ _ _ _ _ = f_X11_bits_L4 _ _ _ _ _ _
    rw [f_X11_bits_L4, if_neg (show ¬ (16 : Int32) ≤ nI i from of_eq_false (le_F (a := 16) (by omega))), lt_eq, lt_eq, sset_bit h hi, plus_n, show nI i + (1 : Int32) = nI (i + 1) from plus_n i 1, pcn]
theorem drop1 {m l : Nat} (hm : m < 256) (hl : l < 8) (h : tb m l = true) : m ^^^ 2 ^ l < m ∧ pcn (m ^^^ 2 ^ l) 8 < pcn m 8 ∧ ∀ k, k < 8 → tb (m ^^^ 2 ^ l) k = (tb m k && !decide (k = l)) := by
  have : ∀ m : Fin 256, ∀ l : Fin 8, tb m.1 l.1 = true → m.1 ^^^ 2 ^ l.1 < m.1 ∧ pcn (m.1 ^^^ 2 ^ l.1) 8 < pcn m.1 8 ∧ ∀ k : Fin 8, tb (m.1 ^^^ 2 ^ l.1) k.1 = (tb m.1 k.1 && !decide (k.1 = l.1)) := by decide +kernel
  obtain ⟨h1, h2, h3⟩ := this ⟨m, hm⟩ ⟨l, hl⟩ h
  exact ⟨h1, h2, fun k hk => h3 ⟨k, hk⟩⟩
/-! the best set -/
def bs (P : Nat → Bool) : Nat → Option Nat
  | 0 => none
  | v + 1 => match bs P v with
    | none => if P v then some v else none
    | some b => if pcn b 8 ≤ pcn v 8 then some b else if P v then some v else some b
theorem bs_lt {P : Nat → Bool} : ∀ v b, bs P v = some b → b < v := by
  intro v
  induction v with
  | zero => intro b h; rw [bs] at h; cases h
  | succ v ih =>
    intro b h
    rw [bs] at h
    split at h
    · split at h
      · have := Option.some.inj h; omega
      · cases h
    · next b' hb =>
      have := ih b' hb
      split at h
      · have := Option.some.inj h; omega
      · split at h
        · have := Option.some.inj h; omega
        · have := Option.some.inj h; omega
theorem bs_eq {P Q : Nat → Bool} (h1 : ∀ m, Q m = true → P m = true) (h2 : ∀ m, m < 256 → P m = true → Q m = false → ∃ m', m' < m ∧ P m' = true ∧ pcn m' 8 < pcn m 8) : ∀ v, v ≤ 256 → bs P v = bs Q v ∧ ∀ m, m < v → P m = true → ∃ b, bs P v = some b ∧ pcn b 8 ≤ pcn m 8 := by
  intro v
  induction v with
  | zero => intro _; exact ⟨rfl, fun m hm => by omega⟩
  | succ v ih =>
    intro hv
    obtain ⟨i1, i2⟩ := ih (by omega)
    cases hb : bs P v with
    | none =>
      have hPQ : P v = Q v := by
        cases hq : Q v
        · cases hp : P v
          · rfl
          · obtain ⟨m', a, b, -⟩ := h2 v (by omega) hp hq
            obtain ⟨x, hx, -⟩ := i2 m' a b
            rw [hb] at hx; cases hx
        · exact h1 v hq
      have hb2 : bs Q v = none := by rw [← i1]; exact hb
      have e1 : bs P (v + 1) = if P v then some v else none := by rw [bs, hb]
      have e2 : bs Q (v + 1) = if Q v then some v else none := by rw [bs, hb2]
      refine ⟨by rw [e1, e2, hPQ], fun m hm hp => ?_⟩
      by_cases c : m = v
      · subst c
        exact ⟨m, by rw [e1, if_pos hp], Nat.le_refl _⟩
      · obtain ⟨x, hx, -⟩ := i2 m (by omega) hp
        rw [hb] at hx; cases hx
    | some b =>
      have hb2 : bs Q v = some b := by rw [← i1]; exact hb
      have e1 : bs P (v + 1) = if pcn b 8 ≤ pcn v 8 then some b else if P v then some v else some b := by rw [bs, hb]
      have e2 : bs Q (v + 1) = if pcn b 8 ≤ pcn v 8 then some b else if Q v then some v else some b := by rw [bs, hb2]
      by_cases c : pcn b 8 ≤ pcn v 8
      · rw [if_pos c] at e1 e2
        refine ⟨by rw [e1, e2], fun m hm hp => ?_⟩
        by_cases d : m = v
        · subst d; exact ⟨b, e1, c⟩
        · obtain ⟨x, hx, hy⟩ := i2 m (by omega) hp
          rw [hb] at hx
          rw [← Option.some.inj hx] at hy
          exact ⟨b, e1, hy⟩
      · rw [if_neg c] at e1 e2
        have hPQ : P v = Q v := by
          cases hq : Q v
          · cases hp : P v
            · rfl
            · obtain ⟨m', a, b', d⟩ := h2 v (by omega) hp hq
              obtain ⟨x, hx, hy⟩ := i2 m' a b'
              rw [hb] at hx
              rw [← Option.some.inj hx] at hy
              omega
          · exact h1 v hq
        refine ⟨by rw [e1, e2, hPQ], fun m hm hp => ?_⟩
        by_cases d : m = v
        · subst d; exact ⟨m, by rw [e1, if_pos hp], Nat.le_refl _⟩
        · obtain ⟨x, hx, hy⟩ := i2 m (by omega) hp
          rw [hb] at hx
          rw [← Option.some.inj hx] at hy
          cases hp2 : P v
          · exact ⟨b, by rw [e1, hp2]; rfl, hy⟩
          · exact ⟨v, by rw [e1, hp2]; rfl, by omega⟩
