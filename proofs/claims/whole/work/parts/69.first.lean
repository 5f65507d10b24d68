/-! ===== the first row of bits: the class ===== -/
theorem fewest_ok {S a : St} {v n q k p i due paid : Nat} {r : Nat → Nat} {to : Option Nat} (hI : I_pcs S) (hc : I_cut S) (hW : Ws S v n r a) (hR : Wr S v n r n a) (hn : n ≤ 16) (hr : ∀ x, r x < 16) (hk : q + (k + 1) = n) (hp : p < nP S) (hv : pv S p = v) (hi : i < pl S p) (hd : due ≤ 10000) (hpd : paid = cB S i + dT S to p i) (hp2 : paid ≤ 200) :
    ∃ z, f_X6_fewest p (nI i) (nI q) (nI due - nI paid) a = some (nI z, a) ∧ ((z = 0 ∧ ∀ m, ¬ good S v n r k to due p i m) ∨ ∃ m, z = m + 1 ∧ m < 8 ∧ good S v n r k to due p i m ∧ ∀ m', m' < m → ¬ good S v n r k to due p i m') := by
  obtain ⟨d0, d1, d2, d5, c1, c2, c3, c4, c5⟩ := pf_p hI (Xw_pc hW.1) hp
  have e32 := hW.2.2.1
  have hct : rd a 3 4 = nI (ct S) := by rw [hW.1 3 4 (by unfold Xw; omega)]; exact hc.1
  have hqn : n - (k + 1) = q := by omega
  unfold f_X6_fewest
  refine loopC (fun f (_ : Unit) m => f_X6_fewest_L3 _ _ _ p (nI i) (nI q) (nI due - nI paid) f (nI m) a) (fun y => ∃ z, y = some (nI z, a) ∧ ((z = 0 ∧ ∀ m, ¬ good S v n r k to due p i m) ∨ ∃ m, z = m + 1 ∧ m < 8 ∧ good S v n r k to due p i m ∧ ∀ m', m' < m → ¬ good S v n r k to due p i m'))
    (fun m _ => (∀ x, x < m → sy S r p (i + x) (q + x) = true) ∧ ∀ m', m' < m → ¬ good S v n r k to due p i m') (if pl S p - i ≤ k + 1 then pl S p - i else k + 1) ?_ ?_ (if pl S p - i ≤ k + 1 then pl S p - i else k + 1) 0 FU () (by omega) (by unfold FU; split <;> omega) ⟨fun x hx => by omega, fun m hm => by omega⟩
  · intro f _ ⟨h1, h2⟩
    refine ⟨0, ?_, Or.inl ⟨rfl, fun m hm => ?_⟩⟩
    · show f_X6_fewest_L3 _ _ _ _ _ _ _ _ _ _ = _
      rw [f_X6_fewest_L3]
      by_cases c : pl S p - i ≤ k + 1
      · rw [if_pos c]; simp (disch := omega) only [md_n, lt_eq, bd_some, gN, gN2, le_T, le_F, lt_T, lt_F, eq_T, eq_F, cN, plus_n, mul_n, rem_n, div_n, sub_n, re_T, re_F, rl_wr, rd_wl, ne_m1, m1_ne, m1_lt, m1_le, m1_ge, m1_gt, m1_refl, ↓reduceIte, L0, L1, L2, L3, L4, L5, L6, L7, L8, L9, L10, L11, L15, L16, L17, L18, L20, L24, L26, L28, L31, L32, L35, L36, L48, L57, L59, L63, L64, L96, L97, L99, L100, L112, L122, L128, L200, L255, L256, L1000, L1024, L2000, L3000, L1000000, L1000000007, d1, e32]
      · rw [if_neg c]; simp (disch := omega) only [md_n, lt_eq, bd_some, gN, gN2, le_T, le_F, lt_T, lt_F, eq_T, eq_F, cN, plus_n, mul_n, rem_n, div_n, sub_n, re_T, re_F, rl_wr, rd_wl, ne_m1, m1_ne, m1_lt, m1_le, m1_ge, m1_gt, m1_refl, ↓reduceIte, L0, L1, L2, L3, L4, L5, L6, L7, L8, L9, L10, L11, L15, L16, L17, L18, L20, L24, L26, L28, L31, L32, L35, L36, L48, L57, L59, L63, L64, L96, L97, L99, L100, L112, L122, L128, L200, L255, L256, L1000, L1024, L2000, L3000, L1000000, L1000000007, d1, e32]
    · have hm0 := hm
      obtain ⟨g1, g2, g3, -⟩ := hm
      exact h2 m (by split <;> omega) hm0
  · intro f _ m hm ⟨h1, h2⟩
    have hm1 : i + m < pl S p := by split at hm <;> omega
    have hm2 : m ≤ k := by split at hm <;> omega
    have hrow := hW.2.2.2.1 (q + m) (by omega)
    have hs := says_ok (i := i + m) (s := r (q + m)) d0 d5 c1 c5 (by omega) (hr _)
    cases hsy : sy S r p (i + m) (q + m)
    · left
      have hs2 : f_X3_says p (nI (i + m)) (nI (r (q + m))) a = some (nI 0, a) := by rw [hs]; unfold sy at hsy; rw [hsy]; rfl
      refine ⟨0, ?_, Or.inl ⟨rfl, fun m' hm' => ?_⟩⟩
      · show f_X6_fewest_L3 _ _ _ _ _ _ _ _ _ _ = _
        rw [f_X6_fewest_L3]
        simp (disch := omega) only [md_n, lt_eq, bd_some, gN, gN2, le_T, le_F, lt_T, lt_F, eq_T, eq_F, cN, plus_n, mul_n, rem_n, div_n, sub_n, re_T, re_F, rl_wr, rd_wl, ne_m1, m1_ne, m1_lt, m1_le, m1_ge, m1_gt, m1_refl, ↓reduceIte, L0, L1, L2, L3, L4, L5, L6, L7, L8, L9, L10, L11, L15, L16, L17, L18, L20, L24, L26, L28, L31, L32, L35, L36, L48, L57, L59, L63, L64, L96, L97, L99, L100, L112, L122, L128, L200, L255, L256, L1000, L1024, L2000, L3000, L1000000, L1000000007, d1, e32, hrow, hs2]
      · by_cases c : m' < m
        · exact h2 m' c hm'
        · obtain ⟨-, -, -, g4, -⟩ := hm'
          rw [hqn] at g4
          have := (rn_iff m' i q).mp g4 m (by omega)
          rw [hsy] at this; cases this
    · have hs2 : f_X3_says p (nI (i + m)) (nI (r (q + m))) a = some (nI 1, a) := by rw [hs]; unfold sy at hsy; rw [hsy]; rfl
      obtain ⟨e5, e6, -⟩ := pf_t hI (Xw_pc hW.1) hp hm1
      have hE := cutsE_ok (i := i + m) d1 c2 c3 hm1
      have hcE := cE_lt hc p (i + m)
      have hus : us S v (tn S p (i + m)) = true := us_iff.mpr ⟨p, hp, hv, i + m, hm1, rfl⟩
      have hre := DT_bd hR (show k - m < n by omega) hus
      rw [show n - (k - m) = q + m + 1 by omega] at hre
      have hrn : rn S r p m i (n - (k + 1)) = true := by
        rw [hqn, rn_iff]
        intro x hx
        by_cases c : x = m
        · subst c; exact hsy
        · exact h1 x (by omega)
      have hgood : good S v n r k to due p i m ↔ ∃ d, isL (DT S v n r (k - m) (tn S p (i + m))) d ∧ d + cE S p (i + m) + paid = due := by
        rw [hpd]
        exact ⟨fun h => h.2.2.2.2, fun h => ⟨hv, hm1, hm2, hrn, h⟩⟩
      have hstep : ¬ good S v n r k to due p i m → (∀ x, x < m + 1 → sy S r p (i + x) (q + x) = true) ∧ ∀ m', m' < m + 1 → ¬ good S v n r k to due p i m' := fun hng => ⟨fun x hx => by
          by_cases c : x = m
          · subst c; exact hsy
          · exact h1 x (by omega), fun m' hm' => by
          by_cases c : m' = m
          · subst c; exact hng
          · exact h2 m' (by omega)⟩
      rcases hre with ⟨p1, p2, p3⟩ | ⟨d, p1, p2, p3, p4⟩
      · right
        refine ⟨(), ?_, hstep (fun hg => ?_)⟩
        · have hne : (nI (1000000 + cE S p (i + m)) = nI due - nI paid) = False := by rw [eqs_n (by omega) (by omega) (by omega)]; exact eq_false (by omega)
          show f_X6_fewest_L3 _ _ _ _ _ _ _ _ _ _ = _
          rw [f_X6_fewest_L3]
          simp (disch := omega) only [md_n, lt_eq, bd_some, gN, gN2, le_T, le_F, lt_T, lt_F, eq_T, eq_F, cN, plus_n, mul_n, rem_n, div_n, sub_n, re_T, re_F, rl_wr, rd_wl, ne_m1, m1_ne, m1_lt, m1_le, m1_ge, m1_gt, m1_refl, ↓reduceIte, L0, L1, L2, L3, L4, L5, L6, L7, L8, L9, L10, L11, L15, L16, L17, L18, L20, L24, L26, L28, L31, L32, L35, L36, L48, L57, L59, L63, L64, L96, L97, L99, L100, L112, L122, L128, L200, L255, L256, L1000, L1024, L2000, L3000, L1000000, L1000000007, d1, e32, hrow, hs2, e5, hE, hct, cE_mul, p2, -sub_n, hne]
        · obtain ⟨d, hd, -⟩ := hgood.mp hg
          exact hd.1 (p1 d)
      · by_cases c : d + cE S p (i + m) + paid = due
        · left
          have he : (nI (d + cE S p (i + m)) = nI due - nI paid) = True := by rw [eqs_n (by omega) (by omega) (by omega)]; exact eq_true c
          refine ⟨m + 1, ?_, Or.inr ⟨m, rfl, by omega, hgood.mpr ⟨d, p2, c⟩, h2⟩⟩
          show f_X6_fewest_L3 _ _ _ _ _ _ _ _ _ _ = _
          rw [f_X6_fewest_L3]
          simp (disch := omega) only [md_n, lt_eq, bd_some, gN, gN2, le_T, le_F, lt_T, lt_F, eq_T, eq_F, cN, plus_n, mul_n, rem_n, div_n, sub_n, re_T, re_F, rl_wr, rd_wl, ne_m1, m1_ne, m1_lt, m1_le, m1_ge, m1_gt, m1_refl, ↓reduceIte, L0, L1, L2, L3, L4, L5, L6, L7, L8, L9, L10, L11, L15, L16, L17, L18, L20, L24, L26, L28, L31, L32, L35, L36, L48, L57, L59, L63, L64, L96, L97, L99, L100, L112, L122, L128, L200, L255, L256, L1000, L1024, L2000, L3000, L1000000, L1000000007, d1, e32, hrow, hs2, e5, hE, hct, cE_mul, p3, -sub_n, he]
        · right
          have hne : (nI (d + cE S p (i + m)) = nI due - nI paid) = False := by rw [eqs_n (by omega) (by omega) (by omega)]; exact eq_false c
          refine ⟨(), ?_, hstep (fun hg => ?_)⟩
          · show f_X6_fewest_L3 _ _ _ _ _ _ _ _ _ _ = _
            rw [f_X6_fewest_L3]
            simp (disch := omega) only [md_n, lt_eq, bd_some, gN, gN2, le_T, le_F, lt_T, lt_F, eq_T, eq_F, cN, plus_n, mul_n, rem_n, div_n, sub_n, re_T, re_F, rl_wr, rd_wl, ne_m1, m1_ne, m1_lt, m1_le, m1_ge, m1_gt, m1_refl, ↓reduceIte, L0, L1, L2, L3, L4, L5, L6, L7, L8, L9, L10, L11, L15, L16, L17, L18, L20, L24, L26, L28, L31, L32, L35, L36, L48, L57, L59, L63, L64, L96, L97, L99, L100, L112, L122, L128, L200, L255, L256, L1000, L1024, L2000, L3000, L1000000, L1000000007, d1, e32, hrow, hs2, e5, hE, hct, cE_mul, p3, -sub_n, hne]
          · obtain ⟨d', hd', e'⟩ := hgood.mp hg
            have := hd'.uniq p2
            subst this
            exact c e'
