/-! ===== write: the call ===== -/
def wW (c j : Nat) : Prop := c = 21 ∨ c = 65 ∨ (c = 20 ∧ j = 1) ∨ (c = 54 ∧ j = 12)
theorem write_ok (v1 : Int64) (v3 : Int32) {S : St} (hI : I_byt S) : ∃ r S1 S2, f_X10_write v1 v3 S = some (r, S1) ∧ f_X11_write v1 v3 S1 = some (r, S2) ∧ I_byt S2 ∧ (∀ c j, ¬ wW c j → rd S2 c j = rd S c j) ∧ ∀ c j, rl S2 c j = rl S c j := by
  have hI' := hI
  obtain ⟨n, hn, h1, h2, h3⟩ := hI
  unfold f_X10_write f_X11_write
  rcases bl1 v3 8 (by decide) with h | ⟨l, hl, hl', rfl, h⟩
  · exact ⟨-3, S, S, by rw [within_in, show f_X11_in v3 1 8 S = _ from h S, bd_some, if_pos rfl], by rw [show f_X11_in v3 1 8 S = _ from h S, bd_some, if_pos rfl], hI', fun _ _ _ => rfl, fun _ _ => rfl⟩
  rw [within_in, show f_X11_in (nI l) 1 8 S = _ from h S, bd_some, if_neg (by decide), h1, plus_n, show (200 : Int32) = nI 200 from rfl]
  simp only [le_n (show n + l < 2147483648 by omega) (show 200 < 2147483648 by decide)]
  by_cases c : n + l ≤ 200
  · obtain ⟨S1, e1, a1, a2, a3, a4⟩ := append_ok v1 c hl' h1
    obtain ⟨S2, e2, b1, b2, b3, b4⟩ := writeM_ok (S := S1) v1 c hl' (by rw [a3 54 12 (by omega) (by omega)]; exact h2)
    refine ⟨nI (n + l), S1, S2, by rw [if_pos c, e1, bd_some], ?_, ?_, ?_, ?_⟩
    · rw [show f_X11_in (nI l) 1 8 S1 = _ from h S1, bd_some, if_neg (by decide), a3 54 12 (by omega) (by omega), h2, plus_n, if_pos (by rw [le_n (by omega) (by omega)]; exact c)]
      exact e2
    · refine ⟨n + l, c, by rw [b3 20 1 (by omega) (by omega)]; exact a1, b1, fun i hi => ?_⟩
      rw [b3 21 i (by omega) (by omega), a2 i, b2 i, a3 65 i (by omega) (by omega)]
      by_cases d : n ≤ i ∧ i < n + l
      · rw [if_pos d, if_pos d]; exact ⟨_, byt_lt _ _, rfl, rfl⟩
      · rw [if_neg d, if_neg d]; exact h3 i (by omega)
    · intro c j hc
      unfold wW at hc
      rw [b3 c j (by omega) (by omega), a3 c j (by omega) (by omega)]
    · intro c j; rw [b4, a4]
  · refine ⟨-5, S, S, by rw [if_neg c], ?_, hI', fun _ _ _ => rfl, fun _ _ => rfl⟩
    rw [show f_X11_in (nI l) 1 8 S = _ from h S, bd_some, if_neg (by decide), h2, plus_n, if_neg (by rw [le_n (by omega) (by omega)]; exact c)]
