/-! ===== told: the class follows a row ===== -/
def XfC (c j : Nat) : Prop := (15 ≤ c ∧ c ≤ 18) ∨ (c = 3 ∧ j = 4) ∨ c = 46
theorem fol0 {D : Dt} {row : Rw} {a : St} (hr : rwOK row) (h0 : row.1 = 0) (hC : rC D a) : rC (apD row D) (wr (wr a 15 row.2.1 (nI (pkd row.2.2 row.2.2.length))) 16 row.2.1 (nI row.2.2.length)) := by
  obtain ⟨c1, c2, c3, c4⟩ := hC
  have g : fr (fun c _ => c = 15 ∨ c = 16) a (wr (wr a 15 row.2.1 (nI (pkd row.2.2 row.2.2.length))) 16 row.2.1 (nI row.2.2.length)) := ((fr.refl _ _).wr (by omega)).wr (by omega)
  unfold apD
  rw [if_pos h0]
  refine ⟨fun w hw => ?_, fun l hl => ?_, ?_, fun p hp => ?_⟩
  · show rd _ 16 w = nI (upL D.1 row.2.1 row.2.2 w).length ∧ rd _ 15 w = nI (pkd (upL D.1 row.2.1 row.2.2 w) (upL D.1 row.2.1 row.2.2 w).length)
    unfold upL
    by_cases e : w = row.2.1
    · rw [if_pos e, e]
      exact ⟨rw_eq, by rw [rw_ne (by omega), rw_eq]⟩
    · rw [if_neg e]
      exact ⟨by rw [rw_ne (by omega), rw_ne (by omega)]; exact (c1 w hw).1, by rw [rw_ne (by omega), rw_ne (by omega)]; exact (c1 w hw).2⟩
  · exact ⟨by rw [g _ _ (by omega)]; exact (c2 l hl).1, fun j hj => by rw [g _ _ (by omega)]; exact (c2 l hl).2 j hj⟩
  · rw [g _ _ (by omega)]; exact c3
  · obtain ⟨m, h1, h2, h3⟩ := c4 p hp
    exact ⟨m, h1, by rw [g _ _ (by omega)]; exact h2, h3⟩
theorem fol1 {D : Dt} {row : Rw} {a a' : St} (hr : rwOK row) (h0 : row.1 = 1) (hC : rC D a) (g : fr (fun c j => c = 17 ∧ 8 * row.2.1 ≤ j ∧ j < 8 * row.2.1 + 8) a a') (hv : ∀ i, i < row.2.2.length → rd a' 17 (8 * row.2.1 + i) = nI (row.2.2.getD i 0)) (hD : okD D) : rC (apD row D) (wr a' 18 row.2.1 (nI row.2.2.length)) := by
  obtain ⟨c1, c2, c3, c4⟩ := hC
  have g2 : fr (fun c _ => c = 17 ∨ c = 18) a (wr a' 18 row.2.1 (nI row.2.2.length)) := (g.mono (fun c j h => by omega)).wr (by omega)
  unfold apD
  rw [if_neg (by omega), if_pos h0]
  refine ⟨fun w hw => ?_, fun l hl => ?_, ?_, fun p hp => ?_⟩
  · exact ⟨by rw [g2 _ _ (by omega)]; exact (c1 w hw).1, by rw [g2 _ _ (by omega)]; exact (c1 w hw).2⟩
  · show rd _ 18 l = nI (upL D.2.1 row.2.1 row.2.2 l).length ∧ ∀ j, j < (upL D.2.1 row.2.1 row.2.2 l).length → rd _ 17 (8 * l + j) = nI ((upL D.2.1 row.2.1 row.2.2 l).getD j 0)
    unfold upL
    by_cases e : l = row.2.1
    · rw [if_pos e, e]
      exact ⟨rw_eq, fun j hj => by rw [rw_ne (by omega)]; exact hv j hj⟩
    · rw [if_neg e]
      have := (hD.2.1 l hl).1
      exact ⟨by rw [rw_ne (by omega), g _ _ (by omega)]; exact (c2 l hl).1, fun j hj => by rw [rw_ne (by omega), g _ _ (by omega)]; exact (c2 l hl).2 j hj⟩
  · rw [g2 _ _ (by omega)]; exact c3
  · obtain ⟨m, h1, h2, h3⟩ := c4 p hp
    exact ⟨m, h1, by rw [g2 _ _ (by omega)]; exact h2, h3⟩
theorem fol2 {D : Dt} {row : Rw} {a : St} (h0 : row.1 = 2) (hC : rC D a) : rC (apD row D) (wr a 3 4 (nI row.2.1)) := by
  obtain ⟨c1, c2, c3, c4⟩ := hC
  have g2 : fr (fun c j => c = 3 ∧ j = 4) a (wr a 3 4 (nI row.2.1)) := (fr.refl _ _).wr (by omega)
  unfold apD
  rw [if_neg (by omega), if_neg (by omega), if_pos h0]
  refine ⟨fun w hw => ?_, fun l hl => ?_, rw_eq, fun p hp => ?_⟩
  · exact ⟨by rw [g2 _ _ (by omega)]; exact (c1 w hw).1, by rw [g2 _ _ (by omega)]; exact (c1 w hw).2⟩
  · exact ⟨by rw [g2 _ _ (by omega)]; exact (c2 l hl).1, fun j hj => by rw [g2 _ _ (by omega)]; exact (c2 l hl).2 j hj⟩
  · obtain ⟨m, h1, h2, h3⟩ := c4 p hp
    exact ⟨m, h1, by rw [g2 _ _ (by omega)]; exact h2, h3⟩
