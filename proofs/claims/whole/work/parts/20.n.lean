/-! ===== loops, with ways out ===== -/
theorem loopC {α β : Type} (F : Nat → α → Nat → β) (C : β → Prop) (P : Nat → α → Prop) (N : Nat)
    (h1 : ∀ f a, P N a → C (F (f + 1) a N)) (h2 : ∀ f a i, i < N → P i a → C (F (f + 1) a i) ∨ ∃ a', F (f + 1) a i = F f a' (i + 1) ∧ P (i + 1) a') :
    ∀ (d i : Nat) (f : Nat) (a : α), i + d = N → d < f → P i a → C (F f a i) := by
  intro d
  induction d with
  | zero =>
    intro i f a hi hf hI
    obtain ⟨f, rfl⟩ : ∃ g, f = g + 1 := ⟨f - 1, by omega⟩
    have : i = N := by omega
    subst this
    exact h1 f a hI
  | succ d ih =>
    intro i f a hi hf hI
    obtain ⟨f, rfl⟩ : ∃ g, f = g + 1 := ⟨f - 1, by omega⟩
    rcases h2 f a i (by omega) hI with h | ⟨a', e, hI2⟩
    · exact h
    · rw [e]
      exact ih (i + 1) f a' (by omega) (by omega) hI2
theorem ex_some {β : Type} {x : Option (β × St)} {C : β → St → Prop} {r : β} {S : St} (e : x = some (r, S)) (h : C r S) : ∃ r S, x = some (r, S) ∧ C r S := ⟨r, S, e, h⟩
/-- a number in a range that begins at 1 -/
theorem bl1 (v : Int32) (n : Nat) (hn : n < 2147483647) : (∀ S, f_X11_in v (nI 1) (nI n) S = some (0, S)) ∨ ∃ j, 1 ≤ j ∧ j ≤ n ∧ v = nI j ∧ ∀ S, f_X11_in v (nI 1) (nI n) S = some (1, S) := by
  rcases pk_ix v (n := n + 1) (by omega) with h | h | ⟨j, hj, rfl⟩
  · refine Or.inl (fun S => ?_)
    have : v < nI 1 := Int32.lt_of_lt_of_le h (nI_pos' (n := 1) (by omega))
    unfold f_X11_in; simp only [lt_eq]; rw [if_pos this]
  · refine Or.inl (fun S => ?_)
    have h2 : nI n < v := Int32.lt_of_lt_of_le (nI_lt (by omega) (by omega)) h
    unfold f_X11_in; simp only [lt_eq, if_pos h2]
    split <;> rfl
  · by_cases c : j = 0
    · refine Or.inl (fun S => ?_)
      unfold f_X11_in; simp only [lt_eq, lt_n (show j < 2147483648 by omega) (show 1 < 2147483648 by omega), if_pos (show j < 1 by omega)]
    · refine Or.inr ⟨j, by omega, by omega, rfl, fun S => ?_⟩
      unfold f_X11_in
      simp only [lt_eq]
      rw [if_neg (by rw [lt_n (by omega) (by omega)]; omega), if_neg (by rw [lt_n (by omega) (by omega)]; omega)]
theorem rw_ne {S : St} {k j a b : Nat} {v : Int32} (h : a ≠ k ∨ b ≠ j) : rd (wr S k j v) a b = rd S a b := by rw [rd_wr, if_neg (by omega)]
theorem rw_eq {S : St} {k j : Nat} {v : Int32} : rd (wr S k j v) k j = v := by rw [rd_wr, if_pos ⟨rfl, rfl⟩]
