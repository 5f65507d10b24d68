/-! ===== of: the call ===== -/
theorem toneOf_ok {S : St} (hI : I_pcs S) {p j : Nat} (hp : p < nP S) (hj : j < pl S p) : f_X11_toneOf (nI p) (nI j) S = some (tone (pb S p) (pe S p) (pl S p) j, S) := by
  obtain ⟨h16, -, -, hA⟩ := hI
  obtain ⟨cp, mp, -⟩ := hA p hp
  have h8 : pl S p ≤ 8 := cp.2.1
  have h1 : 1 ≤ pl S p := cp.1
  obtain ⟨-, -, p1, p2, p3, -⟩ := mp
  clear cp
  have hpn : p < 16 := by omega
  unfold f_X11_toneOf tone
  simp only [gd_t (inb_n hpn (show 16 < 2147483648 by decide)), cl_n (show p < 2147483648 by omega), p1, p2, p3]
  rw [show (1 : Int32) = nI 1 from rfl]
  simp only [eq_n (show pl S p < 2147483648 by omega) (show 1 < 2147483648 by decide)]
  by_cases c : pl S p = 1
  · rw [if_pos c, if_pos c]
  · rw [if_neg c, if_neg c, gd_t (by rw [sub_n h1, ← nI_0, eq_n (by omega) (by decide)]; omega)]
theorem of_all (v1 v2 v3 : Int32) {S : St} (hI : I_pcs S) : ∃ r, f_X10_of v1 v2 v3 S = some (r, S) ∧ f_X11_of v1 v2 v3 S = some (r, S) := by
  have hI' := hI
  obtain ⟨h16, h11, h54, hA⟩ := hI
  unfold f_X10_of f_X11_of
  rcases blz v1 (nP S) (by omega) with h | ⟨p, hp, rfl, h⟩
  · exact ⟨-2, by rw [h11, (h S).1, bd_some, if_pos rfl], by rw [piece_n v1 h54 0 (Or.inl rfl) (h S).2, bd_some, if_pos rfl]⟩
  obtain ⟨cp, mp, -⟩ := hA p hp
  have hl : pl S p ≤ 8 := cp.2.1
  have c1 : rd S (200 + 2 * p) 1 = nI (pl S p) := cp.2.2.2.2.2.2.1
  have p1 : rd S 56 p = nI (pl S p) := mp.2.2.1
  have pt : ∀ j, j < pl S p → rd S (200 + 2 * p + 1) j = tone (pb S p) (pe S p) (pl S p) j := fun j hj => (mp.2.2.2.2.2.2.2 j hj).2
  clear cp mp
  rw [h11, (h S).1, bd_some, if_neg (by decide), gd_t (pin rfl h16 hp), piece_n (nI p) h54 1 (Or.inr rfl) (h S).2, bd_some, if_neg (by decide), gd_t (inb_n (by omega) (by decide))]
  simp only [cl_n (show p < 2147483648 by omega), c1, p1]
  rcases blz v2 (pl S p) (by omega) with g | ⟨j, hj, rfl, g⟩
  · exact ⟨-2, by rw [(g S).1, bd_some, if_pos rfl], by rw [show f_X11_in v2 0 (nI (pl S p) - 1) S = _ from (g S).2, bd_some, if_pos rfl]⟩
  rw [(g S).1, bd_some, if_neg (by decide), show f_X11_in (nI j) 0 (nI (pl S p) - 1) S = _ from (g S).2, bd_some, if_neg (by decide), gd_t (pin' rfl h16 hp), lt_eq]
  by_cases k0 : v3 = 0
  · rw [if_pos k0, if_pos k0, (soundAt_ok hI' hp hj).1, bd_some, show (8 : Int32) = nI 8 from rfl, mul_n, plus_n, gd_t (inb_n (by omega) (by decide)), cl_n (by omega), (soundAt_ok hI' hp hj).2]
    exact ⟨_, rfl, rfl⟩
  rw [if_neg k0, if_neg k0]
  by_cases k1 : v3 = 1
  · rw [if_pos k1, if_pos k1, toneOf_ok hI' hp hj, bd_some, gd_t (inb_n (by omega) (by decide)), cl_n (by omega), pt j hj]
    exact ⟨_, rfl, rfl⟩
  rw [if_neg k1, if_neg k1]
  by_cases k2 : v3 = 2
  · rw [if_pos k2, if_pos k2, wearOf_ok hI' hp (by omega), bd_some, wearAt_ok hI' hp (by omega), bd_some]
    exact ⟨_, rfl, rfl⟩
  rw [if_neg k2, if_neg k2]
  exact ⟨_, rfl, rfl⟩
