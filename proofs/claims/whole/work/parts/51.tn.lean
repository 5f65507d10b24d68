/-! ===== a piece's tones are numbers below 100; loops that go down ===== -/
theorem negdiv {m d : Nat} (hm : m < 1073741824) (hd : d < 1073741824) : (-nI m) / nI d = -nI (m / d) := by
  have hq := Nat.div_le_self m d
  have e1 : (-(m : Int)).bmod (2 ^ 32) = -(m : Int) := Int.bmod_eq_of_le (by omega) (by omega)
  apply Int32.toInt_inj.mp
  rw [Int32.toInt_div, Int32.toInt_neg, Int32.toInt_neg, nI_toInt (by omega), nI_toInt (by omega), nI_toInt (by omega), e1, Int.neg_tdiv, Int.ofNat_tdiv]
theorem tone_n {b e l j : Nat} (hb : b < 100) (he : e < 100) (h1 : 1 ≤ l) (h8 : l ≤ 8) (hj : j < l) : ∃ t, t < 100 ∧ tone b e l j = nI t := by
  unfold tone
  by_cases c : l = 1
  · rw [if_pos c]; exact ⟨b, hb, rfl⟩
  rw [if_neg c, show (1 : Int32) = nI 1 from rfl, sub_n h1]
  have key : ∀ x, j * x / (l - 1) ≤ x := fun x => Nat.div_le_of_le_mul (Nat.mul_le_mul_right x (by omega))
  have kb : ∀ x, x < 100 → j * x < 1000 := fun x hx => Nat.lt_of_le_of_lt (Nat.mul_le_mul (show j ≤ 7 by omega) (show x ≤ 99 by omega)) (by decide)
  by_cases c2 : b ≤ e
  · have := key (e - b)
    refine ⟨b + j * (e - b) / (l - 1), by omega, ?_⟩
    rw [sub_n c2, mul_n, pk_div (by have := kb (e - b) (by omega); omega) (by omega) (by omega), plus_n]
  · have := key (b - e)
    refine ⟨b - j * (b - e) / (l - 1), Nat.lt_of_le_of_lt (Nat.sub_le _ _) hb, ?_⟩
    rw [← Int32.neg_sub, sub_n (show e ≤ b by omega), Int32.mul_neg, mul_n, negdiv (by have := kb (b - e) (by omega); omega) (by omega), ← Int32.sub_eq_add_neg, sub_n (by omega)]
def dn : Nat → Int32
  | 0 => -1
  | i + 1 => nI i
theorem dn_pred (i : Nat) : nI i + (-1) = dn i := by
  cases i with
  | zero => rfl
  | succ i => exact pk_m1 i
theorem loopD {α β : Type} (F : Nat → α → Int32 → β) (C : β → Prop) (P : Nat → α → Prop)
    (h1 : ∀ f a, P 0 a → C (F (f + 1) a (-1))) (h2 : ∀ f a i, P (i + 1) a → C (F (f + 1) a (nI i)) ∨ ∃ a', F (f + 1) a (nI i) = F f a' (nI i + -1) ∧ P i a') :
    ∀ (i : Nat) (f : Nat) (a : α), i < f → P i a → C (F f a (dn i)) := by
  intro i
  induction i with
  | zero =>
    intro f a hf hP
    obtain ⟨f, rfl⟩ : ∃ g, f = g + 1 := ⟨f - 1, by omega⟩
    exact h1 f a hP
  | succ i ih =>
    intro f a hf hP
    obtain ⟨f, rfl⟩ : ∃ g, f = g + 1 := ⟨f - 1, by omega⟩
    rcases h2 f a i hP with h | ⟨a', e, hP2⟩
    · exact h
    · show C (F (f + 1) a (nI i))
      rw [e, dn_pred]
      exact ih f a' (by omega) hP2
theorem m1_lt0 : (-nI 1 < nI 0) = True := eq_true (by decide)
/-- nibble i of a long -/
def nib (x : Int64) (i : Nat) : Nat := x.toBitVec.toNat / 16 ^ i % 16
