/-! ===== sums, rows of counts by jar ===== -/
def sN : Nat → (Nat → Nat) → Nat
  | 0, _ => 0
  | n + 1, f => sN n f + f n
theorem sN_congr {n : Nat} {f g : Nat → Nat} (h : ∀ i, i < n → f i = g i) : sN n f = sN n g := by
  induction n with
  | zero => rfl
  | succ n ih => rw [sN, sN, ih (fun i hi => h i (by omega)), h n (by omega)]
theorem sN_zero {n : Nat} {f : Nat → Nat} (h : ∀ i, i < n → f i = 0) : sN n f = 0 := by
  induction n with
  | zero => rfl
  | succ n ih => rw [sN, ih (fun i hi => h i (by omega)), h n (by omega)]
theorem sN_z {n : Nat} {f : Nat → Nat} (h : sN n f = 0) : ∀ i, i < n → f i = 0 := by
  induction n with
  | zero => intro i hi; omega
  | succ n ih =>
    rw [sN] at h
    intro i hi
    by_cases c : i = n
    · rw [c]; omega
    · exact ih (by omega) i (by omega)
theorem sN_ne {n : Nat} {f : Nat → Nat} (h : sN n f ≠ 0) : ∃ i, i < n ∧ f i ≠ 0 := by
  apply Classical.byContradiction
  intro c
  exact h (sN_zero (fun i hi => Classical.byContradiction fun z => c ⟨i, hi, z⟩))
theorem sN_add (n : Nat) (f g : Nat → Nat) : sN n (fun i => f i + g i) = sN n f + sN n g := by
  induction n with
  | zero => rfl
  | succ n ih => simp only [sN, ih]; omega
theorem sN_single {n b : Nat} (f : Nat → Nat) (h : b < n) : sN n (fun s => if s = b then f s else 0) = f b := by
  induction n with
  | zero => omega
  | succ n ih =>
    rw [sN]
    by_cases c : b = n
    · subst c
      rw [sN_zero (fun i hi => if_neg (by omega)), if_pos rfl, Nat.zero_add]
    · rw [ih (by omega), if_neg (by omega), Nat.add_zero]
theorem sN_comm (n m : Nat) (f : Nat → Nat → Nat) : sN n (fun i => sN m (fun j => f i j)) = sN m (fun j => sN n (fun i => f i j)) := by
  induction n with
  | zero => exact (sN_zero (fun _ _ => rfl)).symm
  | succ n ih => simp only [sN, ih, sN_add]
theorem sN_split (a c : Nat) (f : Nat → Nat) : sN (a + c) f = sN a f + sN c (fun i => f (a + i)) := by
  induction c with
  | zero => rfl
  | succ c ih => rw [← Nat.add_assoc, sN, ih, sN]; omega
theorem sN_mul (a b : Nat) (f : Nat → Nat) : sN (a * b) f = sN a (fun i => sN b (fun j => f (i * b + j))) := by
  induction a with
  | zero => rw [Nat.zero_mul]; rfl
  | succ a ih => rw [Nat.succ_mul, sN_split, ih, sN]
theorem sN_ext0 {n m : Nat} {f : Nat → Nat} (h : n ≤ m) (h0 : ∀ i, n ≤ i → i < m → f i = 0) : sN m f = sN n f := by
  obtain ⟨c, rfl⟩ : ∃ c, m = n + c := ⟨m - n, by omega⟩
  rw [sN_split, sN_zero (n := c) (fun i hi => h0 _ (by omega) (by omega)), Nat.add_zero]
theorem sN_if {n : Nat} (c : Prop) [Decidable c] (f : Nat → Nat) : sN n (fun i => if c then f i else 0) = if c then sN n f else 0 := by
  by_cases h : c
  · simp only [h, if_true]
  · simp only [h, if_false]; exact sN_zero (fun _ _ => rfl)
