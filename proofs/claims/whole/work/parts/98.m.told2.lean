/-! ===== told: all rows, the model ===== -/
theorem rowM_kd {v : Nat} {row : Rw} {a b : St} (h : rowM v row a) (g : fr XdM a b) : rowM v row b := by
  obtain ⟨h1, h2, h3, h4⟩ := h
  exact ⟨by rw [g _ _ (by unfold XdM; omega)]; exact h1, by rw [g _ _ (by unfold XdM; omega)]; exact h2, fun z => ⟨by rw [g _ _ (by unfold XdM; omega)]; exact (h3 z).1, fun i hi => by rw [g _ _ (by unfold XdM; omega)]; exact (h3 z).2 i hi⟩, fun z => by rw [g _ _ (by unfold XdM; omega)]; exact h4 z⟩
theorem toldML {l : List Rw} {D : Dt} (K : St → Option (Int32 × St)) (h10 : l.length ≤ 10) (hD : okD D) (hl : ∀ j, j < l.length → rwOK (l.getD j r0)) :
    ∀ (d k f : Nat) (a : St), k + d = l.length → d < f → rd a 54 20 = nI l.length → (∀ j, j < l.length → rowM (11 * j) (l.getD j r0) a) → rM (apT l D k) a →
    ∃ a', f_X11_told_L12 K f (nI k) a = K a' ∧ rM (apT l D l.length) a' ∧ fr XdM a a' := by
  intro d
  induction d with
  | zero =>
    intro k f a hk hf h20 hR hC
    obtain ⟨f, rfl⟩ : ∃ g, f = g + 1 := ⟨f - 1, by omega⟩
    have e : k = l.length := by omega
    subst e
    exact ⟨a, by rw [f_X11_told_L12, h20, if_pos (of_eq_true (le_T (by omega)))], hC, fr.refl _ _⟩
  | succ d ih =>
    intro k f a hk hf h20 hR hC
    obtain ⟨f, rfl⟩ : ∃ g, f = g + 1 := ⟨f - 1, by omega⟩
    obtain ⟨b, p1, p2, p3⟩ := doRow_ok (v := 11 * k) (by omega) (hl k (by omega)) (hR k (by omega)) (apT_ok hD hl k (by omega)) hC
    obtain ⟨a', q1, q2, q3⟩ := ih (k + 1) f b (by omega) (by omega) (by rw [p3 _ _ (by unfold XdM; omega)]; exact h20) (fun j hj => rowM_kd (hR j hj) p3) p2
    refine ⟨a', ?_, q2, p3.trans q3⟩
    have e1 : (11 : Int32) * nI k = nI (11 * k) := mul_n 11 k
    have e2 : nI k + (1 : Int32) = nI (k + 1) := plus_n k 1
    rw [f_X11_told_L12, h20, if_neg (of_eq_false (le_F (by omega))), ← q1]
    simp only [e1, p1, bd_some, lt_eq, e2]
