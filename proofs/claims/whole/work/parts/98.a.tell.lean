/-! ===== told: a word is packed ===== -/
def pkd (l : List Nat) : Nat → Nat
  | 0 => 0
  | k + 1 => pkd l k + l.getD k 0 * 16 ^ k
theorem pkd_lt {l : List Nat} : ∀ k, (∀ i, i < k → l.getD i 0 < 16) → pkd l k < 16 ^ k := by
  intro k
  induction k with
  | zero => intro _; exact Nat.one_pos
  | succ k ih =>
    intro h
    have h1 := ih (fun i hi => h i (by omega))
    have h2 := h k (by omega)
    show pkd l k + l.getD k 0 * 16 ^ k < 16 ^ (k + 1)
    have h3 : l.getD k 0 * 16 ^ k ≤ 15 * 16 ^ k := Nat.mul_le_mul_right _ (by omega)
    have h4 : 16 ^ (k + 1) = 15 * 16 ^ k + 16 ^ k := by rw [Nat.pow_succ]; omega
    rw [h4]
    omega
theorem pkd_dig {l : List Nat} : ∀ k, (∀ i, i < k → l.getD i 0 < 16) → ∀ j, j < k → pkd l k / 16 ^ j % 16 = l.getD j 0 := by
  intro k
  induction k with
  | zero => intro _ j hj; omega
  | succ k ih =>
    intro h j hj
    have h1 := pkd_lt k (fun i hi => h i (by omega))
    have h2 := h k (by omega)
    show (pkd l k + l.getD k 0 * 16 ^ k) / 16 ^ j % 16 = l.getD j 0
    by_cases e : j = k
    · subst e
      rw [Nat.add_mul_div_right _ _ (Nat.pow_pos (by decide)), Nat.div_eq_of_lt h1, Nat.zero_add, Nat.mod_eq_of_lt h2]
    · have hjk : j < k := by omega
      have e2 : l.getD k 0 * 16 ^ k = (l.getD k 0 * 16 ^ (k - j - 1) * 16) * 16 ^ j := by
        rw [Nat.mul_assoc, Nat.mul_assoc, ← Nat.pow_succ', ← Nat.pow_add, show k - j - 1 + (j + 1) = k by omega]
      rw [e2, Nat.add_mul_div_right _ _ (Nat.pow_pos (by decide)), Nat.add_mul_mod_self_right]
      exact ih (fun i hi => h i (by omega)) j hjk
theorem shl4 {d j : Nat} (hd : d < 16) (hj : j < 8) : nI d <<< (((4 : Int32) * nI j) &&& 31) = nI (d * 16 ^ j) := by
  have : ∀ d : Fin 16, ∀ j : Fin 8, nI d.1 <<< (((4 : Int32) * nI j.1) &&& 31) = nI (d.1 * 16 ^ j.1) := by decide +kernel
  exact this ⟨d, hd⟩ ⟨j, hj⟩
theorem or_pk {x d j : Nat} (hx : x < 16 ^ j) : x ||| d * 16 ^ j = x + d * 16 ^ j := by
  have e : (16 : Nat) ^ j = 2 ^ (4 * j) := by rw [Nat.pow_mul]
  rw [e] at hx ⊢
  rw [Nat.or_comm, Nat.mul_comm d, ← Nat.two_pow_add_eq_or_of_lt hx, Nat.add_comm]
theorem pk_step {l : List Nat} {k : Nat} (hk : k < 8) (h : ∀ i, i < k + 1 → l.getD i 0 < 16) : nI (pkd l k) ||| (nI (l.getD k 0) <<< (((4 : Int32) * nI k) &&& 31)) = nI (pkd l (k + 1)) := by
  have h1 := pkd_lt (k + 1) h
  have h0 := pkd_lt k (fun i hi => h i (by omega))
  have h2 : (16 : Nat) ^ (k + 1) ≤ 16 ^ 8 := Nat.pow_le_pow_right (by decide) (by omega)
  have h3 : pkd l (k + 1) < 4294967296 := Nat.lt_of_lt_of_le h1 h2
  have h4 : pkd l (k + 1) = pkd l k + l.getD k 0 * 16 ^ k := rfl
  clear h1 h2
  rw [shl4 (h k (by omega)) hk, or_n (by omega) (by omega), or_pk h0]
  rfl
