/-! ===== told: the class's word and line ===== -/
theorem tellWL {S : St} {l : List Nat} {n1 : Nat} (K : Int32 → St → Option (Unit × St)) (h3 : rd S (23 + n1) 3 = nI l.length) (h8 : l.length ≤ 8) (hd : ∀ i, i < l.length → l.getD i 0 < 16) (hr : ∀ i, i < l.length → rd S (33 + n1) i = nI (l.getD i 0)) :
    ∀ (d k f : Nat), k + d = l.length → d < f → f_X1_tellWord_L4 K n1 f (nI (pkd l k)) (nI k) S = K (nI (pkd l l.length)) S := by
  intro d
  induction d with
  | zero =>
    intro k f hk hf
    obtain ⟨f, rfl⟩ : ∃ g, f = g + 1 := ⟨f - 1, by omega⟩
    have e : k = l.length := by omega
    subst e
    rw [f_X1_tellWord_L4, h3, if_pos (of_eq_true (le_T (by omega)))]
  | succ d ih =>
    intro k f hk hf
    obtain ⟨f, rfl⟩ : ∃ g, f = g + 1 := ⟨f - 1, by omega⟩
    rw [f_X1_tellWord_L4, h3, if_neg (of_eq_false (le_F (by omega)))]
    have hc : Int32.toNatClampNeg (nI k) = k := cl_n (by omega)
    have e := pk_step (l := l) (k := k) (by omega) (fun i hi => hd i (by omega))
    have e2 : nI k + (1 : Int32) = nI (k + 1) := plus_n k 1
    have hrk := hr k (by omega)
    simp only [hc, hrk, e, lt_eq, e2]
    rw [ih (k + 1) f (by omega) (by omega)]
    simp (disch := omega) only [md_n, lt_eq, bd_some, gN, gN2, le_T, le_F, lt_T, lt_F, eq_T, eq_F, cN, plus_n, mul_n, rem_n, div_n, sub_n, re_T, re_F, rl_wr, rd_wl, ne_m1, m1_ne, m1_lt, m1_le, m1_ge, m1_gt, m1_refl, ↓reduceIte, L0, L1, L2, L3, L4, L5, L6, L7, L8, L9, L10, L11, L15, L16, L17, L18, L20, L24, L26, L28, L31, L32, L35, L36, L48, L57, L59, L63, L64, L96, L97, L99, L100, L112, L122, L128, L200, L255, L256, L1000, L1024, L2000, L3000, L1000000, L1000000007]
theorem tellWord_ok {S : St} {n1 : Nat} {row : Rw} (hn : n1 < 10) (hC : rowC n1 row S) (hok : rwOK row) (h0 : row.1 = 0) : f_X1_tellWord n1 S = some ((), wr (wr S 15 row.2.1 (nI (pkd row.2.2 row.2.2.length))) 16 row.2.1 (nI row.2.2.length)) := by
  obtain ⟨c1, c2, c3, c4⟩ := hC
  have o : row.2.1 < 32 ∧ 1 ≤ row.2.2.length ∧ row.2.2.length ≤ 8 ∧ ∀ i, i < row.2.2.length → row.2.2.getD i 0 < 16 := by
    rcases hok with h | h | h | h
    · exact ⟨h.2.1, h.2.2.1, h.2.2.2.1, h.2.2.2.2⟩
    · omega
    · omega
    · omega
  obtain ⟨o1, o2, o3, o4⟩ := o
  unfold f_X1_tellWord
  have := tellWL (S := S) (l := row.2.2) (n1 := n1) (fun (x10 : Int32) (S11 : St) =>
      gd_ (inb (rd S11 (23 + n1) 1) 32) <|
      lt_ (wr S11 15 (Int32.toNatClampNeg (rd S11 (23 + n1) 1)) x10) fun S12 =>
      gd_ (inb (rd S12 (23 + n1) 1) 32) <|
      lt_ (wr S12 16 (Int32.toNatClampNeg (rd S12 (23 + n1) 1)) (rd S12 (23 + n1) 3)) fun S14 =>
      some ((), S14)) (c3 (by omega)) o3 o4 c4 row.2.2.length 0 FU (by omega) (by unfold FU; omega)
  refine this.trans ?_
  have c3' := c3 (by omega)
  simp (disch := omega) only [md_n, lt_eq, bd_some, gN, gN2, le_T, le_F, lt_T, lt_F, eq_T, eq_F, cN, plus_n, mul_n, rem_n, div_n, sub_n, re_T, re_F, rl_wr, rd_wl, ne_m1, m1_ne, m1_lt, m1_le, m1_ge, m1_gt, m1_refl, ↓reduceIte, L0, L1, L2, L3, L4, L5, L6, L7, L8, L9, L10, L11, L15, L16, L17, L18, L20, L24, L26, L28, L31, L32, L35, L36, L48, L57, L59, L63, L64, L96, L97, L99, L100, L112, L122, L128, L200, L255, L256, L1000, L1024, L2000, L3000, L1000000, L1000000007, c2, c3']
def Ktl (n1 : Nat) (S10 : St) : Option (Unit × St) :=
      gd_ (inb (rd S10 (23 + n1) 1) 8) <|
      lt_ (wr S10 18 (Int32.toNatClampNeg (rd S10 (23 + n1) 1)) (rd S10 (23 + n1) 3)) fun S11 =>
      some ((), S11)
theorem tellLL {l : List Nat} {n1 r : Nat} (hn : n1 < 10) (hr8 : r < 8) (K : St → Option (Unit × St)) (h8 : l.length ≤ 8) :
    ∀ (d k f : Nat) (a : St), k + d = l.length → d < f → rd a (23 + n1) 3 = nI l.length → rd a (23 + n1) 1 = nI r → (∀ i, i < l.length → rd a (33 + n1) i = nI (l.getD i 0)) →
    ∃ a', f_X1_tellLine_L2 K n1 f (nI k) a = K a' ∧ fr (fun c j => c = 17 ∧ 8 * r + k ≤ j ∧ j < 8 * r + 8) a a' ∧ ∀ i, k ≤ i → i < l.length → rd a' 17 (8 * r + i) = nI (l.getD i 0) := by
  intro d
  induction d with
  | zero =>
    intro k f a hk hf h3 h1 hr
    obtain ⟨f, rfl⟩ : ∃ g, f = g + 1 := ⟨f - 1, by omega⟩
    refine ⟨a, ?_, fr.refl _ _, fun i h1 h2 => by omega⟩
    rw [f_X1_tellLine_L2, h3, if_pos (of_eq_true (le_T (by omega)))]
  | succ d ih =>
    intro k f a hk hf h3 h1 hr
    obtain ⟨f, rfl⟩ : ∃ g, f = g + 1 := ⟨f - 1, by omega⟩
    have g0 : fr (fun c j => c = 17 ∧ 8 * r + k ≤ j ∧ j < 8 * r + 8) a (wr a 17 (8 * r + k) (nI (l.getD k 0))) := (fr.refl _ _).wr (by omega)
    obtain ⟨a', p1, p2, p3⟩ := ih (k + 1) f (wr a 17 (8 * r + k) (nI (l.getD k 0))) (by omega) (by omega) (by rw [g0 _ _ (by omega)]; exact h3) (by rw [g0 _ _ (by omega)]; exact h1) (fun i hi => by rw [g0 _ _ (by omega)]; exact hr i hi)
    refine ⟨a', ?_, g0.trans (p2.mono (fun c j h => by omega)), fun i h4 h5 => ?_⟩
    · rw [f_X1_tellLine_L2, h3, if_neg (of_eq_false (le_F (by omega))), ← p1]
      have hc : Int32.toNatClampNeg (nI k) = k := cl_n (by omega)
      have hm : nI r * (8 : Int32) + nI k = nI (8 * r + k) := by
        rw [show nI r * (8 : Int32) = nI (r * 8) from mul_n r 8, Nat.mul_comm]; exact plus_n _ _
      have hcm : Int32.toNatClampNeg (nI (8 * r + k)) = 8 * r + k := cl_n (by omega)
      have e2 : nI k + (1 : Int32) = nI (k + 1) := plus_n k 1
      have hrk := hr k (by omega)
      simp only [hc, hrk, h1, hm, hcm, e2, lt_eq]
      simp (disch := omega) only [md_n, lt_eq, bd_some, gN, gN2, le_T, le_F, lt_T, lt_F, eq_T, eq_F, cN, plus_n, mul_n, rem_n, div_n, sub_n, re_T, re_F, rl_wr, rd_wl, ne_m1, m1_ne, m1_lt, m1_le, m1_ge, m1_gt, m1_refl, ↓reduceIte, L0, L1, L2, L3, L4, L5, L6, L7, L8, L9, L10, L11, L15, L16, L17, L18, L20, L24, L26, L28, L31, L32, L35, L36, L48, L57, L59, L63, L64, L96, L97, L99, L100, L112, L122, L128, L200, L255, L256, L1000, L1024, L2000, L3000, L1000000, L1000000007]
    · by_cases e : i = k
      · subst e; rw [p2 _ _ (by omega)]; exact rw_eq
      · exact p3 i (by omega) h5
