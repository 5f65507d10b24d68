/-! ===== told: the class's line; the model's word and line ===== -/
theorem tellLine_ok {S : St} {n1 : Nat} {row : Rw} (hn : n1 < 10) (hC : rowC n1 row S) (hok : rwOK row) (h0 : row.1 = 1) : ∃ a', f_X1_tellLine n1 S = some ((), wr a' 18 row.2.1 (nI row.2.2.length)) ∧ fr (fun c j => c = 17 ∧ 8 * row.2.1 ≤ j ∧ j < 8 * row.2.1 + 8) S a' ∧ ∀ i, i < row.2.2.length → rd a' 17 (8 * row.2.1 + i) = nI (row.2.2.getD i 0) := by
  obtain ⟨c1, c2, c3, c4⟩ := hC
  have o : row.2.1 < 8 ∧ row.2.2.length ≤ 8 := by
    rcases hok with h | h | h | h
    · omega
    · exact ⟨h.2.1, h.2.2.2.1⟩
    · omega
    · omega
  have c3' := c3 (by omega)
  obtain ⟨a', p1, p2, p3⟩ := tellLL (l := row.2.2) (n1 := n1) (r := row.2.1) hn o.1 (Ktl n1) o.2 row.2.2.length 0 FU S (by omega) (by unfold FU; omega) c3' c2 c4
  refine ⟨a', ?_, p2.mono (fun c j h => by omega), fun i hi => p3 i (by omega) hi⟩
  have e : f_X1_tellLine n1 S = f_X1_tellLine_L2 (Ktl n1) n1 FU (0 : Int32) S := by unfold f_X1_tellLine Ktl; rfl
  rw [e, L0, p1]
  have d1 : rd a' (23 + n1) 1 = nI row.2.1 := by rw [p2 _ _ (by omega)]; exact c2
  have d3 : rd a' (23 + n1) 3 = nI row.2.2.length := by rw [p2 _ _ (by omega)]; exact c3'
  have o1 := o.1
  unfold Ktl
  simp (disch := omega) only [md_n, lt_eq, bd_some, gN, gN2, le_T, le_F, lt_T, lt_F, eq_T, eq_F, cN, plus_n, mul_n, rem_n, div_n, sub_n, re_T, re_F, rl_wr, rd_wl, ne_m1, m1_ne, m1_lt, m1_le, m1_ge, m1_gt, m1_refl, ↓reduceIte, L0, L1, L2, L3, L4, L5, L6, L7, L8, L9, L10, L11, L15, L16, L17, L18, L20, L24, L26, L28, L31, L32, L35, L36, L48, L57, L59, L63, L64, L96, L97, L99, L100, L112, L122, L128, L200, L255, L256, L1000, L1024, L2000, L3000, L1000000, L1000000007, d1, d3]
theorem doWL {v r n : Nat} {g : Nat → Nat} (hv : v + 11 ≤ 110) (hr : r < 32) (h8 : n ≤ 8) (K : St → Option (Unit × St)) :
    ∀ (d k f : Nat) (a : St), k + d = n → d < f → (∀ i, i < n → rd a 66 (v + 3 + i) = nI (g i)) →
    ∃ a', f_X11_doRow_L66 K (nI v) (nI r) (nI n) f (nI k) a = K a' ∧ fr (fun c j => c = 68 ∧ 8 * r + k ≤ j ∧ j < 8 * r + 8) a a' ∧ ∀ i, k ≤ i → i < n → rd a' 68 (8 * r + i) = nI (g i) := by
  intro d
  induction d with
  | zero =>
    intro k f a hk hf hg
    obtain ⟨f, rfl⟩ : ∃ g, f = g + 1 := ⟨f - 1, by omega⟩
    refine ⟨a, ?_, fr.refl _ _, fun i h1 h2 => by omega⟩
    rw [f_X11_doRow_L66, if_pos (of_eq_true (le_T (by omega)))]
  | succ d ih =>
    intro k f a hk hf hg
    obtain ⟨f, rfl⟩ : ∃ g, f = g + 1 := ⟨f - 1, by omega⟩
    have g0 : fr (fun c j => c = 68 ∧ 8 * r + k ≤ j ∧ j < 8 * r + 8) a (wr a 68 (8 * r + k) (nI (g k))) := (fr.refl _ _).wr (by omega)
    obtain ⟨a', p1, p2, p3⟩ := ih (k + 1) f (wr a 68 (8 * r + k) (nI (g k))) (by omega) (by omega) (fun i hi => by rw [g0 _ _ (by omega)]; exact hg i hi)
    refine ⟨a', ?_, g0.trans (p2.mono (fun c j h => by omega)), fun i h4 h5 => ?_⟩
    · rw [f_X11_doRow_L66, if_neg (of_eq_false (le_F (by omega))), ← p1]
      have hm : (8 : Int32) * nI r + nI k = nI (8 * r + k) := by
        rw [show (8 : Int32) * nI r = nI (8 * r) from mul_n 8 r]; exact plus_n _ _
      have hm2 : nI v + (3 : Int32) + nI k = nI (v + 3 + k) := by
        rw [show nI v + (3 : Int32) = nI (v + 3) from plus_n v 3]; exact plus_n _ _
      have hcm : Int32.toNatClampNeg (nI (8 * r + k)) = 8 * r + k := cl_n (by omega)
      have hcm2 : Int32.toNatClampNeg (nI (v + 3 + k)) = v + 3 + k := cl_n (by omega)
      have e2 : nI k + (1 : Int32) = nI (k + 1) := plus_n k 1
      have hrk := hg k (by omega)
      simp only [hm, hm2, hcm, hcm2, hrk, e2, lt_eq]
      simp (disch := omega) only [md_n, lt_eq, bd_some, gN, gN2, le_T, le_F, lt_T, lt_F, eq_T, eq_F, cN, plus_n, mul_n, rem_n, div_n, sub_n, re_T, re_F, rl_wr, rd_wl, ne_m1, m1_ne, m1_lt, m1_le, m1_ge, m1_gt, m1_refl, ↓reduceIte, L0, L1, L2, L3, L4, L5, L6, L7, L8, L9, L10, L11, L15, L16, L17, L18, L20, L24, L26, L28, L31, L32, L35, L36, L48, L57, L59, L63, L64, L96, L97, L99, L100, L112, L122, L128, L200, L255, L256, L1000, L1024, L2000, L3000, L1000000, L1000000007]
    · by_cases e : i = k
      · subst e; rw [p2 _ _ (by omega)]; exact rw_eq
      · exact p3 i (by omega) h5
theorem doLL {v r n : Nat} {g : Nat → Nat} (hv : v + 11 ≤ 110) (hr : r < 8) (h8 : n ≤ 8) (K : St → Option (Unit × St)) :
    ∀ (d k f : Nat) (a : St), k + d = n → d < f → (∀ i, i < n → rd a 66 (v + 3 + i) = nI (g i)) →
    ∃ a', f_X11_doRow_L114 K (nI v) (nI r) (nI n) f (nI k) a = K a' ∧ fr (fun c j => c = 70 ∧ 8 * r + k ≤ j ∧ j < 8 * r + 8) a a' ∧ ∀ i, k ≤ i → i < n → rd a' 70 (8 * r + i) = nI (g i) := by
  intro d
  induction d with
  | zero =>
    intro k f a hk hf hg
    obtain ⟨f, rfl⟩ : ∃ g, f = g + 1 := ⟨f - 1, by omega⟩
    refine ⟨a, ?_, fr.refl _ _, fun i h1 h2 => by omega⟩
    rw [f_X11_doRow_L114, if_pos (of_eq_true (le_T (by omega)))]
  | succ d ih =>
    intro k f a hk hf hg
    obtain ⟨f, rfl⟩ : ∃ g, f = g + 1 := ⟨f - 1, by omega⟩
    have g0 : fr (fun c j => c = 70 ∧ 8 * r + k ≤ j ∧ j < 8 * r + 8) a (wr a 70 (8 * r + k) (nI (g k))) := (fr.refl _ _).wr (by omega)
    obtain ⟨a', p1, p2, p3⟩ := ih (k + 1) f (wr a 70 (8 * r + k) (nI (g k))) (by omega) (by omega) (fun i hi => by rw [g0 _ _ (by omega)]; exact hg i hi)
    refine ⟨a', ?_, g0.trans (p2.mono (fun c j h => by omega)), fun i h4 h5 => ?_⟩
    · rw [f_X11_doRow_L114, if_neg (of_eq_false (le_F (by omega))), ← p1]
      have hm : (8 : Int32) * nI r + nI k = nI (8 * r + k) := by
        rw [show (8 : Int32) * nI r = nI (8 * r) from mul_n 8 r]; exact plus_n _ _
      have hm2 : nI v + (3 : Int32) + nI k = nI (v + 3 + k) := by
        rw [show nI v + (3 : Int32) = nI (v + 3) from plus_n v 3]; exact plus_n _ _
      have hcm : Int32.toNatClampNeg (nI (8 * r + k)) = 8 * r + k := cl_n (by omega)
      have hcm2 : Int32.toNatClampNeg (nI (v + 3 + k)) = v + 3 + k := cl_n (by omega)
      have e2 : nI k + (1 : Int32) = nI (k + 1) := plus_n k 1
      have hrk := hg k (by omega)
      simp only [hm, hm2, hcm, hcm2, hrk, e2, lt_eq]
      simp (disch := omega) only [md_n, lt_eq, bd_some, gN, gN2, le_T, le_F, lt_T, lt_F, eq_T, eq_F, cN, plus_n, mul_n, rem_n, div_n, sub_n, re_T, re_F, rl_wr, rd_wl, ne_m1, m1_ne, m1_lt, m1_le, m1_ge, m1_gt, m1_refl, ↓reduceIte, L0, L1, L2, L3, L4, L5, L6, L7, L8, L9, L10, L11, L15, L16, L17, L18, L20, L24, L26, L28, L31, L32, L35, L36, L48, L57, L59, L63, L64, L96, L97, L99, L100, L112, L122, L128, L200, L255, L256, L1000, L1024, L2000, L3000, L1000000, L1000000007]
    · by_cases e : i = k
      · subst e; rw [p2 _ _ (by omega)]; exact rw_eq
      · exact p3 i (by omega) h5
