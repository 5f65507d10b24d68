/-! ===== the bytes: write, erase ===== -/
def I_byt (S : St) : Prop := ∃ n, n ≤ 200 ∧ rd S 20 1 = nI n ∧ rd S 54 12 = nI n ∧ ∀ i, i < n → ∃ b, b < 256 ∧ rd S 21 i = nI b ∧ rd S 65 i = nI b
theorem erase_ok {S : St} (hI : I_byt S) : ∃ r S1 S2, f_X10_erase S = some (r, S1) ∧ f_X11_erase S1 = some (r, S2) ∧ I_byt S2 ∧ S2 = wr (wr S 20 1 0) 54 12 0 := by
  obtain ⟨n, hn, h1, h2, h3⟩ := hI
  refine ⟨nI n, wr S 20 1 0, wr (wr S 20 1 0) 54 12 0, ?_, ?_, ?_, rfl⟩
  · unfold f_X10_erase f_X9_empty
    simp only [lt_eq]
    rw [h1, bd_some]
  · unfold f_X11_erase
    simp only [lt_eq]
    rw [rw_ne (by omega), h2]
  · exact ⟨0, by omega, by rw [rw_ne (by omega), rw_eq]; rfl, by rw [rw_eq]; rfl, fun i hi => by omega⟩
