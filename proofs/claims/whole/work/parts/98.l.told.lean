/-! ===== told: all rows ===== -/
def apT (l : List Rw) (D : Dt) : Nat → Dt
  | 0 => D
  | k + 1 => apD (l.getD k r0) (apT l D k)
theorem apT_ok {l : List Rw} {D : Dt} (hD : okD D) (hl : ∀ j, j < l.length → rwOK (l.getD j r0)) : ∀ k, k ≤ l.length → okD (apT l D k) := by
  intro k
  induction k with
  | zero => intro _; exact hD
  | succ k ih => intro h; exact apD_ok (hl k (by omega)) (ih (by omega))
theorem rowC_kf {n1 : Nat} {row : Rw} {a b : St} (hn : n1 < 10) (h : rowC n1 row a) (g : fr XfC a b) : rowC n1 row b := by
  obtain ⟨h1, h2, h3, h4⟩ := h
  exact ⟨by rw [g _ _ (by unfold XfC; omega)]; exact h1, by rw [g _ _ (by unfold XfC; omega)]; exact h2, fun z => by rw [g _ _ (by unfold XfC; omega)]; exact h3 z, fun i hi => by rw [g _ _ (by unfold XfC; omega)]; exact h4 i hi⟩
theorem toldCL {l : List Rw} {D : Dt} (K : St → Option (Int32 × St)) (h10 : l.length ≤ 10) (hD : okD D) (hl : ∀ j, j < l.length → rwOK (l.getD j r0)) :
    ∀ (d k f : Nat) (a : St), k + d = l.length → d < f → (∀ j, j < l.length → rowC j (l.getD j r0) a) → rC (apT l D k) a →
    ∃ a', f_X10_told_L24 K (nI l.length) f (nI k) a = K a' ∧ rC (apT l D l.length) a' ∧ fr XfC a a' := by
  intro d
  induction d with
  | zero =>
    intro k f a hk hf hR hC
    obtain ⟨f, rfl⟩ : ∃ g, f = g + 1 := ⟨f - 1, by omega⟩
    have e : k = l.length := by omega
    subst e
    exact ⟨a, by rw [f_X10_told_L24, if_pos (of_eq_true (le_T (by omega)))], hC, fr.refl _ _⟩
  | succ d ih =>
    intro k f a hk hf hR hC
    obtain ⟨f, rfl⟩ : ∃ g, f = g + 1 := ⟨f - 1, by omega⟩
    obtain ⟨b, p1, p2, p3⟩ := follow_ok (n1 := k) (by omega) (hl k (by omega)) (hR k (by omega)) (apT_ok hD hl k (by omega)) hC
    obtain ⟨a', q1, q2, q3⟩ := ih (k + 1) f b (by omega) (by omega) (fun j hj => rowC_kf (by omega) (hR j hj) p3) p2
    refine ⟨a', ?_, q2, p3.trans q3⟩
    have hc : Int32.toNatClampNeg (nI k) = k := cl_n (by omega)
    have e2 : nI k + (1 : Int32) = nI (k + 1) := plus_n k 1
    rw [f_X10_told_L24, if_neg (of_eq_false (le_F (by omega))), ← q1]
    simp only [hc, p1, bd_some, lt_eq, e2]
    simp (disch := omega) only [md_n, lt_eq, bd_some, gN, gN2, le_T, le_F, lt_T, lt_F, eq_T, eq_F, cN, plus_n, mul_n, rem_n, div_n, sub_n, re_T, re_F, rl_wr, rd_wl, ne_m1, m1_ne, m1_lt, m1_le, m1_ge, m1_gt, m1_refl, ↓reduceIte, L0, L1, L2, L3, L4, L5, L6, L7, L8, L9, L10, L11, L15, L16, L17, L18, L20, L24, L26, L28, L31, L32, L35, L36, L48, L57, L59, L63, L64, L96, L97, L99, L100, L112, L122, L128, L200, L255, L256, L1000, L1024, L2000, L3000, L1000000, L1000000007]
