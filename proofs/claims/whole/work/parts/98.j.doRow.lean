/-! ===== told: a row, done by the model ===== -/
def XdM (c j : Nat) : Prop := (67 ≤ c ∧ c ≤ 70) ∨ c = 72 ∨ (c = 54 ∧ j = 7)
theorem rM_near {D : Dt} {f : Nat → Nat → Bool} {a b : St} (hM : rM D a) (g : fr (fun c _ => c = 72) a b) (hb : bits 72 f b) : rM (D.1, D.2.1, D.2.2.1, f) b := by
  obtain ⟨c1, c2, c3, c4⟩ := hM
  refine ⟨fun w hw => ?_, fun l hl => ?_, ?_, hb⟩
  · exact ⟨by rw [g _ _ (by omega)]; exact (c1 w hw).1, fun j hj => by rw [g _ _ (by omega)]; exact (c1 w hw).2 j hj⟩
  · exact ⟨by rw [g _ _ (by omega)]; exact (c2 l hl).1, fun j hj => by rw [g _ _ (by omega)]; exact (c2 l hl).2 j hj⟩
  · rw [g _ _ (by omega)]; exact c3
theorem dom0 {D : Dt} {row : Rw} {a a' : St} (h0 : row.1 = 0) (hM : rM D a) (hD : okD D) (g : fr (fun c j => c = 68 ∧ 8 * row.2.1 ≤ j ∧ j < 8 * row.2.1 + 8) (wr a 67 row.2.1 (nI row.2.2.length)) a') (hv : ∀ i, i < row.2.2.length → rd a' 68 (8 * row.2.1 + i) = nI (row.2.2.getD i 0)) : rM (apD row D) a' := by
  obtain ⟨c1, c2, c3, c4⟩ := hM
  have g2 : fr (fun c _ => c = 67 ∨ c = 68) a a' := ((fr.refl _ _).wr (by omega)).trans (g.mono (fun c j h => by omega))
  unfold apD
  rw [if_pos h0]
  refine ⟨fun l hl => ?_, fun w hw => ?_, ?_, fun p hp => ?_⟩
  · show rd _ 67 l = nI (upL D.1 row.2.1 row.2.2 l).length ∧ ∀ j, j < (upL D.1 row.2.1 row.2.2 l).length → rd _ 68 (8 * l + j) = nI ((upL D.1 row.2.1 row.2.2 l).getD j 0)
    unfold upL
    by_cases e : l = row.2.1
    · rw [if_pos e, e]
      exact ⟨by rw [g _ _ (by omega)]; exact rw_eq, fun j hj => hv j hj⟩
    · rw [if_neg e]
      have := (hD.1 l hl).1
      exact ⟨by rw [g _ _ (by omega), rw_ne (by omega)]; exact (c1 l hl).1, fun j hj => by rw [g _ _ (by omega), rw_ne (by omega)]; exact (c1 l hl).2 j hj⟩
  · exact ⟨by rw [g2 _ _ (by omega)]; exact (c2 w hw).1, fun j hj => by rw [g2 _ _ (by omega)]; exact (c2 w hw).2 j hj⟩
  · rw [g2 _ _ (by omega)]; exact c3
  · obtain ⟨m, h1, h2, h3⟩ := c4 p hp
    exact ⟨m, h1, by rw [g2 _ _ (by omega)]; exact h2, h3⟩
theorem dom1 {D : Dt} {row : Rw} {a a' : St} (h0 : row.1 = 1) (hM : rM D a) (hD : okD D) (g : fr (fun c j => c = 70 ∧ 8 * row.2.1 ≤ j ∧ j < 8 * row.2.1 + 8) (wr a 69 row.2.1 (nI row.2.2.length)) a') (hv : ∀ i, i < row.2.2.length → rd a' 70 (8 * row.2.1 + i) = nI (p32 (row.2.2.getD i 0))) : rM (apD row D) a' := by
  obtain ⟨c1, c2, c3, c4⟩ := hM
  have g2 : fr (fun c _ => c = 69 ∨ c = 70) a a' := ((fr.refl _ _).wr (by omega)).trans (g.mono (fun c j h => by omega))
  unfold apD
  rw [if_neg (by omega), if_pos h0]
  refine ⟨fun w hw => ?_, fun l hl => ?_, ?_, fun p hp => ?_⟩
  · exact ⟨by rw [g2 _ _ (by omega)]; exact (c1 w hw).1, fun j hj => by rw [g2 _ _ (by omega)]; exact (c1 w hw).2 j hj⟩
  · show rd _ 69 l = nI (upL D.2.1 row.2.1 row.2.2 l).length ∧ ∀ j, j < (upL D.2.1 row.2.1 row.2.2 l).length → rd _ 70 (8 * l + j) = nI (p32 ((upL D.2.1 row.2.1 row.2.2 l).getD j 0))
    unfold upL
    by_cases e : l = row.2.1
    · rw [if_pos e, e]
      exact ⟨by rw [g _ _ (by omega)]; exact rw_eq, fun j hj => hv j hj⟩
    · rw [if_neg e]
      have := (hD.2.1 l hl).1
      exact ⟨by rw [g _ _ (by omega), rw_ne (by omega)]; exact (c2 l hl).1, fun j hj => by rw [g _ _ (by omega), rw_ne (by omega)]; exact (c2 l hl).2 j hj⟩
  · rw [g2 _ _ (by omega)]; exact c3
  · obtain ⟨m, h1, h2, h3⟩ := c4 p hp
    exact ⟨m, h1, by rw [g2 _ _ (by omega)]; exact h2, h3⟩
theorem dom2 {D : Dt} {row : Rw} {a : St} (h0 : row.1 = 2) (hM : rM D a) : rM (apD row D) (wr a 54 7 (nI row.2.1)) := by
  obtain ⟨c1, c2, c3, c4⟩ := hM
  have g2 : fr (fun c j => c = 54 ∧ j = 7) a (wr a 54 7 (nI row.2.1)) := (fr.refl _ _).wr (by omega)
  unfold apD
  rw [if_neg (by omega), if_neg (by omega), if_pos h0]
  refine ⟨fun w hw => ?_, fun l hl => ?_, rw_eq, fun p hp => ?_⟩
  · exact ⟨by rw [g2 _ _ (by omega)]; exact (c1 w hw).1, fun j hj => by rw [g2 _ _ (by omega)]; exact (c1 w hw).2 j hj⟩
  · exact ⟨by rw [g2 _ _ (by omega)]; exact (c2 l hl).1, fun j hj => by rw [g2 _ _ (by omega)]; exact (c2 l hl).2 j hj⟩
  · obtain ⟨m, h1, h2, h3⟩ := c4 p hp
    exact ⟨m, h1, by rw [g2 _ _ (by omega)]; exact h2, h3⟩
