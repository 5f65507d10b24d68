/-! ===== the pure side: small laws ===== -/
theorem gd_t {β : Type} {c : Prop} [Decidable c] {x : Option β} (h : c) : gd_ c x = x := if_pos h
theorem bd_some {ρ β : Type} (r : ρ) (S : St) (f : ρ → St → Option β) : bd_ (some (r, S)) f = f r S := rfl
theorem lt_eq {α β : Type} (x : α) (f : α → Option β) : lt_ x f = f x := rfl
theorem inb_n {n N : Nat} (h : n < N) (hN : N < 2147483648) : inb (nI n) N := vp_in_nI h (by omega)
theorem cl_n {n : Nat} (h : n < 2147483648) : Int32.toNatClampNeg (nI n) = n := nI_clamp (by omega)
theorem lit (n : Nat) : (OfNat.ofNat n : Int32) = nI (OfNat.ofNat n : Nat) := rfl
theorem le_n {a b : Nat} (ha : a < 2147483648) (hb : b < 2147483648) : (nI a ≤ nI b) = (a ≤ b) := propext (nI_leI (by omega) (by omega))
theorem lt_n {a b : Nat} (ha : a < 2147483648) (hb : b < 2147483648) : (nI a < nI b) = (a < b) := propext (nI_ltI (by omega) (by omega))
theorem eq_n {a b : Nat} (ha : a < 2147483648) (hb : b < 2147483648) : (nI a = nI b) = (a = b) := propext (nI_eq (by omega) (by omega))
theorem sub_n {a b : Nat} (h : b ≤ a) : nI a - nI b = nI (a - b) := pk_sub h
theorem mul_n (a b : Nat) : nI a * nI b = nI (a * b) := pk_mul a b
theorem plus_n (a b : Nat) : nI a + nI b = nI (a + b) := nI_add a b
/-- how far apart -/
def dst (a b : Nat) : Nat := (a - b) + (b - a)
theorem dst_of_le {a b : Nat} (h : a ≤ b) : dst a b = b - a := by unfold dst; omega
theorem dst_of_ge {a b : Nat} (h : b ≤ a) : dst a b = a - b := by unfold dst; omega
theorem mabs_n {a b : Nat} (ha : a < 1073741824) (hb : b < 1073741824) : mabs (nI a - nI b) = nI (dst a b) := by
  unfold mabs
  by_cases h : b ≤ a
  · rw [sub_n h, if_pos (nI_pos' (by omega)), dst_of_ge h]
  · have h1 : nI a - nI b < 0 := pk_sneg (by omega) (by omega)
    rw [if_neg (by intro h2; exact absurd h1 (by rw [Int32.not_lt]; exact h2)), dst_of_le (by omega), ← sub_n (by omega)]
    apply Int32.toBitVec_inj.mp
    show 0#32 - ((nI a).toBitVec - (nI b).toBitVec) = (nI b).toBitVec - (nI a).toBitVec
    rw [BitVec.zero_sub, BitVec.neg_sub, BitVec.add_comm, ← BitVec.sub_eq_add_neg]
theorem apart_n {a b : Nat} (ha : a < 1073741824) (hb : b < 1073741824) (S : St) : f_X11_apart (nI a) (nI b) S = some (nI (dst a b), S) := by
  unfold f_X11_apart
  by_cases h : a ≤ b
  · rw [if_pos (by rw [le_n (by omega) (by omega)]; exact h), sub_n h, dst_of_le h]
  · rw [if_neg (by rw [le_n (by omega) (by omega)]; exact h), sub_n (by omega), dst_of_ge (by omega)]
/-- the two tests of a number below a bound -/
theorem bl (v : Int32) (n : Nat) (h0 : 0 < n) (hn : n < 2147483648) : (∀ S, f_X10_below v (nI n) S = some (0, S) ∧ f_X11_in v (nI 0) (nI (n - 1)) S = some (0, S)) ∨ ∃ j, j < n ∧ v = nI j ∧ ∀ S, f_X10_below v (nI n) S = some (1, S) ∧ f_X11_in v (nI 0) (nI (n - 1)) S = some (1, S) := by
  rcases pk_ix v (n := n) (by omega) with h | h | ⟨j, hj, rfl⟩
  · refine Or.inl (fun S => ⟨?_, ?_⟩)
    · unfold f_X10_below; simp only [lt_eq, if_pos h]
    · unfold f_X11_in; simp only [lt_eq]; rw [if_pos (by rw [nI_0]; exact h)]
  · refine Or.inl (fun S => ⟨?_, ?_⟩)
    · unfold f_X10_below
      have : ¬ v < 0 := by intro h2; have := Int32.lt_of_lt_of_le h2 (nI_pos' (n := n) (by omega)); exact Int32.lt_irrefl (Int32.lt_of_lt_of_le this h)
      simp only [lt_eq, if_neg this, if_pos h]
    · unfold f_X11_in
      simp only [lt_eq]
      have h2 : nI (n - 1) < v := Int32.lt_of_lt_of_le (nI_lt (by omega) (by omega)) h
      have : ¬ v < nI 0 := by rw [nI_0]; intro h2; have := Int32.lt_of_lt_of_le h2 (nI_pos' (n := n) (by omega)); exact Int32.lt_irrefl (Int32.lt_of_lt_of_le this h)
      rw [if_neg this, if_pos h2]
  · refine Or.inr ⟨j, hj, rfl, fun S => ⟨?_, ?_⟩⟩
    · unfold f_X10_below; simp only [lt_eq, if_neg (nI_pos (n := j) (by omega)), le_n (show n < 2147483648 by omega) (show j < 2147483648 by omega), if_neg (show ¬ n ≤ j by omega)]
    · unfold f_X11_in
      simp only [lt_eq]
      rw [if_neg (by rw [nI_0]; exact nI_pos (by omega)), if_neg (by rw [lt_n (by omega) (by omega)]; omega)]
theorem within_in (v a b : Int32) (S : St) : f_X10_within v a b S = f_X11_in v a b S := rfl
/-- a loop that counts up to N: so many steps, then what is behind it -/
theorem loopN {α β : Type} (F : Nat → α → Nat → β) (K : α → β) (step : Nat → α → α) (I : Nat → α → Prop) (N : Nat)
    (h1 : ∀ f a, I N a → F (f + 1) a N = K a) (h2 : ∀ f a i, i < N → I i a → F (f + 1) a i = F f (step i a) (i + 1) ∧ I (i + 1) (step i a)) :
    ∀ (d i : Nat) (f : Nat) (a : α), i + d = N → d < f → I i a → ∃ z, z = (List.range' i d).foldl (fun a i => step i a) a ∧ I N z ∧ F f a i = K z := by
  intro d
  induction d with
  | zero =>
    intro i f a hi hf hI
    obtain ⟨f, rfl⟩ : ∃ g, f = g + 1 := ⟨f - 1, by omega⟩
    have : i = N := by omega
    subst this
    exact ⟨a, rfl, hI, h1 f a hI⟩
  | succ d ih =>
    intro i f a hi hf hI
    obtain ⟨f, rfl⟩ : ∃ g, f = g + 1 := ⟨f - 1, by omega⟩
    obtain ⟨e, hI2⟩ := h2 f a i (by omega) hI
    obtain ⟨z, e1, e2, e3⟩ := ih (i + 1) f (step i a) (by omega) (by omega) hI2
    refine ⟨z, ?_, e2, e.trans e3⟩
    rw [e1, List.range'_succ, List.foldl_cons]
