/-! ===== worn: the call ===== -/
theorem lstK_cg {S S' : St} (h1 : al S' = al S) (h2 : pw S' = pw S) (p k : Nat) : lstK S' p k = lstK S p k := by
  induction k with
  | zero => rw [lstK, lstK, h2]
  | succ k ih => rw [lstK, lstK, h1, h2, ih]
theorem worn_ok (v1 v2 : Int32) {S : St} (hI : I_pcs S) : ∃ r S1 S2, f_X10_worn v1 v2 S = some (r, S1) ∧ f_X11_worn v1 v2 S1 = some (r, S2) ∧ I_pcs S2 ∧ kp W_pcs S S2 := by
  have hI' := hI
  obtain ⟨h16, h11, h54, hA⟩ := hI
  unfold f_X10_worn f_X11_worn
  rcases blz v1 (nP S) (by omega) with h | ⟨p, hp, rfl, h⟩
  · exact ⟨-2, S, S, by rw [h11, (h S).1, bd_some, if_pos rfl], by rw [piece_n v1 h54 0 (Or.inl rfl) (h S).2, bd_some, if_pos rfl], hI', kp.refl _ _⟩
  obtain ⟨cp, mp, -⟩ := hA p hp
  have hl : pl S p ≤ 8 := cp.2.1
  have hl2 := pow8 hl
  have c1 : rd S (200 + 2 * p) 1 = nI (pl S p) := cp.2.2.2.2.2.2.1
  have c4 : rd S (200 + 2 * p) 4 = nI (pw S p) := cp.2.2.2.2.2.2.2.2
  have p1 : rd S 56 p = nI (pl S p) := mp.2.2.1
  have p4 : rd S 60 p = nI (pw S p) := mp.2.2.2.2.2.2.1
  clear cp mp
  rcases blz v2 (2 ^ pl S p) (by omega) with g | ⟨m, hm, rfl, g⟩
  · refine ⟨-3, S, S, ?_, ?_, hI', kp.refl _ _⟩
    · rw [h11, (h S).1, bd_some, if_neg (by decide), gd_t (pin rfl h16 hp)]
      simp only [cl_n (show p < 2147483648 by omega), c1, shl1 hl]
      rw [(g S).1, bd_some, if_pos rfl]
    · rw [piece_n (nI p) h54 1 (Or.inr rfl) (h S).2, bd_some, if_neg (by decide), gd_t (inb_n (by omega) (by decide))]
      simp only [cl_n (show p < 2147483648 by omega), p1, shl1 hl]
      rw [show f_X11_in v2 0 (nI (2 ^ pl S p) - 1) S = _ from (g S).2, bd_some, if_pos rfl]
  · -- the state after the mark is set
    have aL : pl (wr S (200 + 2 * p) 4 (nI m)) = pl S := by funext q; unfold pl; rw [rw_ne (Or.inr (by decide))]
    have aX : px (wr S (200 + 2 * p) 4 (nI m)) = px S := by funext q; unfold px; rw [rw_ne (Or.inr (by decide))]
    have aV : pv (wr S (200 + 2 * p) 4 (nI m)) = pv S := by funext q; unfold pv; rw [rw_ne (Or.inr (by decide))]
    have aW : ∀ q, pw (wr S (200 + 2 * p) 4 (nI m)) q = if q = p then m else pw S q := by
      intro q; unfold pw
      by_cases e : q = p
      · rw [e, rw_eq, cl_n (by omega), if_pos rfl]
      · rw [rw_ne (Or.inl (by omega)), if_neg e]
    have aN : nP (wr S (200 + 2 * p) 4 (nI m)) = nP S := nP_wr (by omega)
    generalize hS1 : wr S (200 + 2 * p) 4 (nI m) = S1 at aL aX aV aW aN
    have r1 : ∀ c j, (c ≠ 200 + 2 * p ∨ j ≠ 4) → rd S1 c j = rd S c j := fun c j hc => by rw [← hS1, rw_ne hc]
    have hc : ∀ q, q < nP S → OKc S1 q := by
      intro q hq
      obtain ⟨b1, b2, b3, b4, b5, b6, b7, b8, b9⟩ := (hA q hq).1
      unfold OKc
      rw [aL, aX, aV, aW, r1 _ 0 (Or.inr (by decide)), r1 _ 1 (Or.inr (by decide)), r1 _ 2 (Or.inr (by decide))]
      refine ⟨b1, b2, b3, ?_, b5, b6, b7, b8, ?_⟩
      · by_cases e : q = p
        · rw [if_pos e, e]; exact hm
        · rw [if_neg e]; exact b4
      · by_cases e : q = p
        · rw [if_pos e, e, ← hS1, rw_eq]
        · rw [if_neg e, r1 _ 4 (Or.inl (by intro e2; exact e (by clear b4 b5; omega)))]; exact b9
    obtain ⟨S2, m1, m2, m3⟩ := mend_ok aN h16 (by rw [r1 1 1 (by omega)]; exact h11) hc
    obtain ⟨d1, d2, d3, d4, d5⟩ := m2.acc
    have r2 : ∀ c j, c < 200 ∨ 232 ≤ c → rd S2 c j = rd S c j := fun c j hc => by rw [m2.1 c j (by omega), r1 c j (by omega)]
    have n2 : nP S2 = nP S := d5.trans aN
    have i2 : rd S2 54 0 = nI (nP S2) := by rw [r2 54 0 (by omega), n2]; exact h54
    refine ⟨nI (pw S p), S2, wr S2 60 p (nI m), ?_, ?_, ?_, ?_⟩
    · rw [h11, (h S).1, bd_some, if_neg (by decide), gd_t (pin rfl h16 hp)]
      simp only [cl_n (show p < 2147483648 by omega), c1, shl1 hl]
      rw [(g S).1, bd_some, if_neg (by decide)]
      unfold f_X8_wear
      rw [gd_t (pin rfl h16 hp)]
      simp only [lt_eq, cl_n (show p < 2147483648 by omega), c4, gd_t (pin' rfl h16 hp), hS1, m1, bd_some]
    · rw [piece_n (nI p) i2 1 (Or.inr rfl) (by rw [n2]; exact (h S2).2), bd_some, if_neg (by decide), gd_t (inb_n (by omega) (by decide))]
      simp only [cl_n (show p < 2147483648 by omega), r2 56 p (Or.inl (by decide)), p1, shl1 hl]
      rw [show f_X11_in (nI m) 0 (nI (2 ^ pl S p) - 1) S2 = _ from (g S2).2, bd_some, if_neg (by decide), gd_t (inb_n (by omega) (by decide)), lt_eq, gd_t (inb_n (by omega) (by decide)), r2 60 p (Or.inl (by decide)), p4]; rfl
    · have z : ∀ c j, c ≠ 60 → rd (wr S2 60 p (nI m)) c j = rd S2 c j := fun c j hc => rw_ne (Or.inl hc)
      have zL : pl (wr S2 60 p (nI m)) = pl S := by rw [← aL, ← d1]; funext q; unfold pl; rw [z _ _ (by omega)]
      have zX : px (wr S2 60 p (nI m)) = px S := by rw [← aX, ← d2]; funext q; unfold px; rw [z _ _ (by omega)]
      have zV : pv (wr S2 60 p (nI m)) = pv S := by rw [← aV, ← d3]; funext q; unfold pv; rw [z _ _ (by omega)]
      have zW : pw (wr S2 60 p (nI m)) = pw S1 := by rw [← d4]; funext q; unfold pw; rw [z _ _ (by omega)]
      have zN : nP (wr S2 60 p (nI m)) = nP S := by rw [← n2]; exact nP_wr (by omega)
      have zB : pb (wr S2 60 p (nI m)) = pb S := by funext q; unfold pb; rw [z _ _ (by omega), r2 _ _ (by omega)]
      have zE : pe (wr S2 60 p (nI m)) = pe S := by funext q; unfold pe; rw [z _ _ (by omega), r2 _ _ (by omega)]
      have zA : al (wr S2 60 p (nI m)) = al S1 := by funext a b; unfold al; rw [zL, zX, zV, aL, aX, aV]
      refine ⟨by rw [zN]; exact h16, by rw [z _ _ (by omega), r2 _ _ (by omega), zN]; exact h11, by rw [z _ _ (by omega), r2 _ _ (by omega), zN]; exact h54, ?_⟩
      intro q hq
      rw [zN] at hq
      refine ⟨?_, ?_, ?_⟩
      · have := hc q hq
        unfold OKc at this ⊢
        rw [aL, aX, aV] at this
        rw [zL, zX, zV, zW, z _ 0 (by omega), z _ 1 (by omega), z _ 2 (by omega), z _ 4 (by omega), m2.1 _ 0 (Or.inl (by decide)), m2.1 _ 1 (Or.inl (by decide)), m2.1 _ 2 (Or.inl (by decide)), m2.1 _ 4 (Or.inl (by decide))]
        exact this
      · obtain ⟨b1, b2, b3, b4, b5, b6, b7, b8⟩ := (hA q hq).2.1
        unfold OKm
        rw [zL, zX, zV, zW, zB, zE, z 56 _ (by decide), z 57 _ (by decide), z 58 _ (by decide), z 59 _ (by decide), r2 56 _ (by omega), r2 57 _ (by omega), r2 58 _ (by omega), r2 59 _ (by omega), aW]
        refine ⟨b1, b2, b3, b4, b5, b6, ?_, fun j hj => ?_⟩
        · by_cases e : q = p
          · rw [if_pos e, e, rw_eq]
          · rw [if_neg e, rw_ne (Or.inr e), r2 60 _ (by omega)]; exact b7
        · have hq8 : j < 8 := Nat.lt_of_lt_of_le hj (hA q hq).1.2.1
          rw [z 55 _ (by decide), r2 55 _ (by omega), z (200 + 2 * q + 1) j (by omega), show rd S2 (200 + 2 * q + 1) j = rd S (200 + 2 * q + 1) j from by rw [m2.1 _ _ (by omega), r1 _ _ (by omega)]]
          exact b8 j hj
      · rw [z _ _ (by omega), m3 q hq]
        unfold lst
        rw [zN, aN, lstK_cg zA zW]
    · have : kp W_pcs S S1 := by rw [← hS1]; exact kp.wr _ _ _ _ (by unfold W_pcs; simp; omega)
      exact (this.trans (kp5 m2 (fun c h1 h2 => by unfold W_pcs; simp; omega))).trans (kp.wr _ _ _ _ (by decide))
