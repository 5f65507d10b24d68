/-! ===== told: a row, followed by the class ===== -/
theorem rC_near {D : Dt} {f : Nat → Nat → Bool} {a b : St} (hC : rC D a) (g : fr (fun c _ => c = 46) a b) (hb : bits 46 (fun p q => decide (p = q) || f p q) b) : rC (D.1, D.2.1, D.2.2.1, f) b := by
  obtain ⟨c1, c2, c3, c4⟩ := hC
  refine ⟨fun w hw => ?_, fun l hl => ?_, ?_, hb⟩
  · exact ⟨by rw [g _ _ (by omega)]; exact (c1 w hw).1, by rw [g _ _ (by omega)]; exact (c1 w hw).2⟩
  · exact ⟨by rw [g _ _ (by omega)]; exact (c2 l hl).1, fun j hj => by rw [g _ _ (by omega)]; exact (c2 l hl).2 j hj⟩
  · rw [g _ _ (by omega)]; exact c3
theorem bits_cg {c : Nat} {f f' : Nat → Nat → Bool} {S : St} (h : bits c f S) (e : ∀ p q, p < 6 → q < 6 → f p q = f' p q) : bits c f' S := fun p hp => by
  obtain ⟨m, h1, h2, h3⟩ := h p hp
  exact ⟨m, h1, h2, fun q hq => by rw [h3 q hq, e p q hp hq]⟩
theorem follow_ok {D : Dt} {row : Rw} {a : St} {n1 : Nat} (hn : n1 < 10) (hr : rwOK row) (hR : rowC n1 row a) (hD : okD D) (hC : rC D a) : ∃ a', f_X10_follow n1 a = some ((), a') ∧ rC (apD row D) a' ∧ fr XfC a a' := by
  have hR0 := hR
  obtain ⟨r1, r2, r3, r4⟩ := hR
  unfold f_X10_follow
  rcases hr with h | h | h | h
  · have r1' : rd a (23 + n1) 0 = (0 : Int32) := by rw [r1, h.1]; exact L0.symm
    rw [if_pos r1', tellWord_ok hn hR0 (Or.inl h) h.1, bd_some]
    exact ⟨_, rfl, fol0 (Or.inl h) h.1 hC, ((fr.refl _ _).wr (by unfold XfC; omega)).wr (by unfold XfC; omega)⟩
  · obtain ⟨a', p1, p2, p3⟩ := tellLine_ok hn hR0 (Or.inr (Or.inl h)) h.1
    have r1' : rd a (23 + n1) 0 = (1 : Int32) := by rw [r1, h.1]; exact L1.symm
    rw [r1', if_neg (by decide), if_pos rfl, p1, bd_some]
    exact ⟨_, rfl, fol1 (Or.inr (Or.inl h)) h.1 hC p2 p3 hD, (p2.mono (fun c j h => by unfold XfC; omega)).wr (by unfold XfC; omega)⟩
  · have r1' : rd a (23 + n1) 0 = (2 : Int32) := by rw [r1, h.1]; exact L2.symm
    rw [r1', if_neg (by decide), if_neg (by decide), if_pos rfl, lt_eq, r2]
    exact ⟨_, rfl, fol2 h.1 hC, (fr.refl _ _).wr (by unfold XfC; omega)⟩
  · obtain ⟨h1, h2, h3, h4, h5⟩ := h
    have r5 : rd a (33 + n1) (Int32.toNatClampNeg (0 : Int32)) = nI (row.2.2.getD 0 0) := r4 0 (by omega)
    rcases h1 with h1 | h1
    · have r1' : rd a (23 + n1) 0 = (3 : Int32) := by rw [r1, h1]; exact L3.symm
      obtain ⟨m, k, q1, q2, q3, q4, q5⟩ := bits_join (c := 46) (f := fun p q => decide (p = q) || D.2.2.2 p q) h2 h4 h5 hC.2.2.2
      rw [r1', if_neg (by decide), if_neg (by decide), if_neg (by decide), if_pos rfl, r2, r5, join_ok h2 h4 h5 q1 q2 q3 q4, bd_some]
      refine ⟨_, rfl, ?_, ((fr.refl _ _).wr (by unfold XfC; omega)).wr (by unfold XfC; omega)⟩
      unfold apD
      rw [if_neg (by omega), if_neg (by omega), if_neg (by omega), if_pos h1]
      exact rC_near hC (((fr.refl _ _).wr (by omega)).wr (by omega)) (bits_cg q5 (fun p q _ _ => by simp only [Bool.or_assoc]))
    · have r1' : rd a (23 + n1) 0 = (4 : Int32) := by rw [r1, h1]; exact L4.symm
      obtain ⟨m, k, q1, q2, q3, q4, q5⟩ := bits_part (c := 46) (f := fun p q => decide (p = q) || D.2.2.2 p q) h2 h4 h5 hC.2.2.2
      rw [r1', if_neg (by decide), if_neg (by decide), if_neg (by decide), if_neg (by decide), if_pos rfl, r2, r5, part_ok h2 h4 h5 q1 q2 q3 q4, bd_some]
      refine ⟨_, rfl, ?_, ((fr.refl _ _).wr (by unfold XfC; omega)).wr (by unfold XfC; omega)⟩
      unfold apD
      rw [if_neg (by omega), if_neg (by omega), if_neg (by omega), if_neg (by omega)]
      refine rC_near hC (((fr.refl _ _).wr (by omega)).wr (by omega)) (bits_cg q5 (fun p q _ _ => ?_))
      by_cases e : p = q
      · subst e
        have e1 : (decide (p = row.2.1) && decide (row.2.2.getD 0 0 = p)) = false := by
          cases hh : (decide (p = row.2.1) && decide (row.2.2.getD 0 0 = p))
          · rfl
          · rw [Bool.and_eq_true] at hh
            exact absurd ((of_decide_eq_true hh.2).trans (of_decide_eq_true hh.1)) h5
        have e2 : (decide (p = row.2.2.getD 0 0) && decide (row.2.1 = p)) = false := by
          cases hh : (decide (p = row.2.2.getD 0 0) && decide (row.2.1 = p))
          · rfl
          · rw [Bool.and_eq_true] at hh
            exact absurd ((of_decide_eq_true hh.2).trans (of_decide_eq_true hh.1)).symm h5
        simp only [e1, e2, decide_true, Bool.true_or, Bool.not_false, Bool.and_true]
      · simp only [decide_eq_false e, Bool.false_or]
