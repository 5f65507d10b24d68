/-! ===== worn ===== -/
theorem blz (v : Int32) (n : Nat) (hn : n < 2147483648) : (∀ S, f_X10_below v (nI n) S = some (0, S) ∧ f_X11_in v (nI 0) (nI n - 1) S = some (0, S)) ∨ ∃ j, j < n ∧ v = nI j ∧ ∀ S, f_X10_below v (nI n) S = some (1, S) ∧ f_X11_in v (nI 0) (nI n - 1) S = some (1, S) := by
  by_cases h0 : n = 0
  · subst h0
    refine Or.inl (fun S => ?_)
    by_cases c : v < 0
    · unfold f_X10_below f_X11_in
      simp only [lt_eq, nI_0]
      rw [if_pos c, if_pos c]; exact ⟨rfl, rfl⟩
    · have c2 : (0 : Int32) ≤ v := Int32.not_lt.mp c
      have c3 : nI 0 - 1 < v := Int32.lt_of_lt_of_le (by decide) c2
      unfold f_X10_below f_X11_in
      simp only [lt_eq, nI_0]
      rw [nI_0] at c3
      rw [if_neg c, if_pos c2, if_neg c, if_pos c3]; exact ⟨rfl, rfl⟩
  · have e : nI n - 1 = nI (n - 1) := by rw [lit, sub_n (by omega)]
    rw [e]
    exact bl v n (by omega) hn
theorem shl1 {l : Nat} (h : l ≤ 8) : (1 : Int32) <<< (nI l &&& 31) = nI (2 ^ l) := by
  have : ∀ l : Fin 9, (1 : Int32) <<< (nI l.1 &&& 31) = nI (2 ^ l.1) := by decide +kernel
  exact this ⟨l, by omega⟩
theorem piece_n (v : Int32) {S : St} (h54 : rd S 54 0 = nI (nP S)) (r : Int32) (hr : r = 0 ∨ r = 1) (h : f_X11_in v (nI 0) (nI (nP S) - 1) S = some (r, S)) : f_X11_isPiece v S = some (r, S) := by
  unfold f_X11_isPiece
  rw [h54, show f_X11_in v 0 (nI (nP S) - 1) S = some (r, S) from h, bd_some, gd_t (by rcases hr with rfl | rfl <;> decide)]
def W_pcs (c : Nat) : Bool := c == 60 || decide (200 ≤ c ∧ c < 232)
theorem kp5 {S S' : St} (h : eq5 S S') {W : Nat → Bool} (hW : ∀ c, 200 ≤ c → c < 232 → W c = true) : kp W S S' := fun c hc => by
  have : c < 200 ∨ 232 ≤ c := by
    by_cases h1 : 200 ≤ c ∧ c < 232
    · rw [hW c h1.1 h1.2] at hc; cases hc
    · omega
  exact ⟨fun j => h.1 c j (by omega), fun j => h.2 c j⟩
