theorem gat33 {S a : St} {v p : Nat} {v1 : Int32} (K : St → Option (Unit × St)) (hI : I_pcs S) (hf : fr Xw S a) (h33 : rd a 3 3 = nI v) (hv4 : v < 4) (hp : p < nP S) (hm : ∀ t, t < 100 → rd a 6 t = nI 0 ∨ rd a 6 t = nI 1) :
    ∃ a', f_X6_gatherTones_L33 K v1 p FU (nI 0) a = K a' ∧ fr (fun c _ => c = 6) a a' ∧ ∀ t, t < 100 → (rd a' 6 t = nI 0 ∨ rd a' 6 t = nI 1) ∧ (rd a' 6 t = nI 1 ↔ rd a 6 t = nI 1 ∨ (pv S p = v ∧ ∃ i, i < pl S p ∧ tn S p i = t)) := by
  obtain ⟨-, d1, d2, -, c1, c2, c3, c4, c5⟩ := pf_p hI (Xw_pc hf) hp
  by_cases hv : pv S p = v
  · refine loopC (fun f (b : St) i => f_X6_gatherTones_L33 K v1 p f (nI i) b) (fun x => ∃ a', x = K a' ∧ fr (fun c _ => c = 6) a a' ∧ ∀ t, t < 100 → (rd a' 6 t = nI 0 ∨ rd a' 6 t = nI 1) ∧ (rd a' 6 t = nI 1 ↔ rd a 6 t = nI 1 ∨ (pv S p = v ∧ ∃ i, i < pl S p ∧ tn S p i = t)))
      (fun i b => fr (fun c _ => c = 6) a b ∧ ∀ t, t < 100 → (rd b 6 t = nI 0 ∨ rd b 6 t = nI 1) ∧ (rd b 6 t = nI 1 ↔ rd a 6 t = nI 1 ∨ (pv S p = v ∧ ∃ m, m < i ∧ tn S p m = t))) (pl S p) ?_ ?_ (pl S p) 0 FU a (by omega) (by unfold FU; omega) ⟨fr.refl _ _, fun t ht => ⟨hm t ht, by simp⟩⟩
    · intro f b ⟨hb, hb2⟩
      have e1 : rd b (200 + 2 * p) 1 = nI (pl S p) := by rw [hb _ _ (by omega)]; exact d1
      refine ⟨b, ?_, hb, hb2⟩
      rw [f_X6_gatherTones_L33]
      simp (disch := omega) only [md_n, lt_eq, bd_some, gN, gN2, le_T, le_F, lt_T, lt_F, eq_T, eq_F, cN, plus_n, mul_n, rem_n, div_n, sub_n, re_T, re_F, rl_wr, rd_wl, ne_m1, m1_ne, m1_lt, m1_le, m1_ge, m1_gt, m1_refl, ↓reduceIte, L0, L1, L2, L3, L4, L5, L6, L7, L8, L9, L10, L11, L15, L16, L17, L18, L20, L24, L26, L28, L31, L32, L35, L36, L48, L57, L59, L63, L64, L96, L97, L99, L100, L112, L122, L128, L200, L255, L256, L1000, L1024, L2000, L3000, L1000000, L1000000007, e1]
    · intro f b i hi ⟨hb, hb2⟩
      have e1 : rd b (200 + 2 * p) 1 = nI (pl S p) := by rw [hb _ _ (by omega)]; exact d1
      have e2 : rd b (200 + 2 * p) 2 = nI v := by rw [hb _ _ (by omega), d2, hv]
      have e3 : rd b 3 3 = nI v := by rw [hb _ _ (by omega)]; exact h33
      obtain ⟨e4, e5, -⟩ := pf_t hI (Xw_pc hf) hp hi
      rw [← hb _ _ (by omega)] at e4
      refine Or.inr ⟨wr b 6 (tn S p i) (nI 1), ?_, hb.wr rfl, fun t ht => ?_⟩
      · rw [f_X6_gatherTones_L33]
        simp (disch := omega) only [md_n, lt_eq, bd_some, gN, gN2, le_T, le_F, lt_T, lt_F, eq_T, eq_F, cN, plus_n, mul_n, rem_n, div_n, sub_n, re_T, re_F, rl_wr, rd_wl, ne_m1, m1_ne, m1_lt, m1_le, m1_ge, m1_gt, m1_refl, ↓reduceIte, L0, L1, L2, L3, L4, L5, L6, L7, L8, L9, L10, L11, L15, L16, L17, L18, L20, L24, L26, L28, L31, L32, L35, L36, L48, L57, L59, L63, L64, L96, L97, L99, L100, L112, L122, L128, L200, L255, L256, L1000, L1024, L2000, L3000, L1000000, L1000000007, e1, e2, e3, e4]
      · by_cases c : t = tn S p i
        · subst c
          rw [rw_eq]
          exact ⟨Or.inr rfl, fun _ => Or.inr ⟨hv, i, by omega, rfl⟩, fun _ => rfl⟩
        · rw [rw_ne (Or.inr c)]
          obtain ⟨g1, g2⟩ := hb2 t ht
          refine ⟨g1, g2.trans ?_⟩
          constructor
          · rintro (h | ⟨h, m, hm, e⟩)
            · exact Or.inl h
            · exact Or.inr ⟨h, m, by omega, e⟩
          · rintro (h | ⟨h, m, hm, e⟩)
            · exact Or.inl h
            · have : m ≠ i := fun z => c (by rw [← e, z])
              exact Or.inr ⟨h, m, by omega, e⟩
  · refine ⟨a, ?_, fr.refl _ _, fun t ht => ⟨hm t ht, ?_⟩⟩
    · show f_X6_gatherTones_L33 K v1 p (19999 + 1) (nI 0) a = K a
      rw [f_X6_gatherTones_L33]
      simp (disch := omega) only [md_n, lt_eq, bd_some, gN, gN2, le_T, le_F, lt_T, lt_F, eq_T, eq_F, cN, plus_n, mul_n, rem_n, div_n, sub_n, re_T, re_F, rl_wr, rd_wl, ne_m1, m1_ne, m1_lt, m1_le, m1_ge, m1_gt, m1_refl, ↓reduceIte, L0, L1, L2, L3, L4, L5, L6, L7, L8, L9, L10, L11, L15, L16, L17, L18, L20, L24, L26, L28, L31, L32, L35, L36, L48, L57, L59, L63, L64, L96, L97, L99, L100, L112, L122, L128, L200, L255, L256, L1000, L1024, L2000, L3000, L1000000, L1000000007, d1, d2, h33]
    · constructor
      · exact Or.inl
      · rintro (h | ⟨h, -⟩)
        · exact h
        · exact absurd h hv
def Xg (c j : Nat) : Prop := c = 5 ∨ c = 6 ∨ c = 3 ∧ j = 6
theorem gatherTones_ok {S a : St} {v : Nat} (hI : I_pcs S) (hf : fr Xw S a) (h33 : rd a 3 3 = nI v) (hv4 : v < 4) : ∃ a', f_X6_gatherTones a = some ((), a') ∧ hasL a' 5 3 6 (usL S v) ∧ fr Xg a a' := by
  have h16 := hI.1
  unfold f_X6_gatherTones
  obtain ⟨a1, o1, o2, o3⟩ := fill_ok (S := a) (c := 6) (N := 100) (v := 0) rfl (by decide)
  rw [o1, bd_some]
  refine loopC (fun f (b : St) i => f_X6_gatherTones_L10 _ f (nI i) b) (fun x => ∃ a', x = some ((), a') ∧ hasL a' 5 3 6 (usL S v) ∧ fr Xg a a')
    (fun i b => fr (fun c _ => c = 6) a b ∧ ∀ t, t < 100 → (rd b 6 t = nI 0 ∨ rd b 6 t = nI 1) ∧ (rd b 6 t = nI 1 ↔ ∃ p, p < i ∧ pv S p = v ∧ ∃ m, m < pl S p ∧ tn S p m = t)) (nP S) ?_ ?_ (nP S) 0 FU a1 (by omega) (by unfold FU; omega) ⟨o3, fun t ht => ⟨Or.inl (o2 t ht), ?_⟩⟩
  · intro f b ⟨hb, hb2⟩
    have e1 : rd b 1 1 = nI (nP S) := by rw [hb 1 1 (by omega)]; exact pf_1 hI (Xw_pc hf)
    show ∃ a', f_X6_gatherTones_L10 _ _ _ _ = _ ∧ _
    rw [f_X6_gatherTones_L10]
    have hus : ∀ t, t < 100 → (rd b 6 t = nI 1 ↔ us S v t = true) := fun t ht => (hb2 t ht).2.trans us_iff.symm
    rw [e1, if_pos (Int32.le_refl _), lt_eq]
    refine loopC (fun f (b : St) i => f_X6_gatherTones_L83 (fun S37 => some ((), S37)) f (nI i) b) (fun x => ∃ a', x = some ((), a') ∧ hasL a' 5 3 6 (usL S v) ∧ fr Xg a a')
      (fun i c => hasL c 5 3 6 ((List.range i).filter (us S v)) ∧ fr (fun c j => c = 5 ∨ c = 3 ∧ j = 6) b c) 100 ?_ ?_ 100 0 FU _ (by omega) (by unfold FU; omega) ⟨hasL.nil rw_eq, (fr.refl _ _).wr (by omega)⟩
    · intro f c ⟨hc, hc2⟩
      refine ⟨c, ?_, hc, (hb.mono (fun c j h => by unfold Xg; omega)).trans (hc2.mono (fun c j h => by unfold Xg; omega))⟩
      rw [f_X6_gatherTones_L83]
      simp (disch := omega) only [md_n, lt_eq, bd_some, gN, gN2, le_T, le_F, lt_T, lt_F, eq_T, eq_F, cN, plus_n, mul_n, rem_n, div_n, sub_n, re_T, re_F, rl_wr, rd_wl, ne_m1, m1_ne, m1_lt, m1_le, m1_ge, m1_gt, m1_refl, ↓reduceIte, L0, L1, L2, L3, L4, L5, L6, L7, L8, L9, L10, L11, L15, L16, L17, L18, L20, L24, L26, L28, L31, L32, L35, L36, L48, L57, L59, L63, L64, L96, L97, L99, L100, L112, L122, L128, L200, L255, L256, L1000, L1024, L2000, L3000, L1000000, L1000000007]
    · intro f c t ht ⟨hc, hc2⟩
      right
      have hlen := (fl_facts (us S v) t).2.2.2.2.2
      have e6 : rd c 6 t = rd b 6 t := hc2 6 t (by omega)
      have e36 := hc.1
      show ∃ a', _ ∧ hasL a' 5 3 6 ((List.range (t + 1)).filter (us S v)) ∧ _
      rw [List.range_succ, List.filter_append]
      cases hu : us S v t
      · have e7 : rd b 6 t = nI 0 := by
          rcases (hb2 t ht).1 with h | h
          · exact h
          · rw [hus t ht, hu] at h; cases h
        refine ⟨c, ?_, by simpa [hu] using hc, hc2⟩
        rw [f_X6_gatherTones_L83]
        simp (disch := omega) only [md_n, lt_eq, bd_some, gN, gN2, le_T, le_F, lt_T, lt_F, eq_T, eq_F, cN, plus_n, mul_n, rem_n, div_n, sub_n, re_T, re_F, rl_wr, rd_wl, ne_m1, m1_ne, m1_lt, m1_le, m1_ge, m1_gt, m1_refl, ↓reduceIte, L0, L1, L2, L3, L4, L5, L6, L7, L8, L9, L10, L11, L15, L16, L17, L18, L20, L24, L26, L28, L31, L32, L35, L36, L48, L57, L59, L63, L64, L96, L97, L99, L100, L112, L122, L128, L200, L255, L256, L1000, L1024, L2000, L3000, L1000000, L1000000007, e6, e7]
      · have e7 : rd b 6 t = nI 1 := (hus t ht).mpr hu
        refine ⟨_, ?_, by simp only [List.filter_cons, hu, List.filter_nil, if_true]; exact hc.snoc (by decide) rfl, (hc2.wr (by omega)).wr (by omega)⟩
        rw [f_X6_gatherTones_L83]
        simp (disch := omega) only [md_n, lt_eq, bd_some, gN, gN2, le_T, le_F, lt_T, lt_F, eq_T, eq_F, cN, plus_n, mul_n, rem_n, div_n, sub_n, re_T, re_F, rl_wr, rd_wl, ne_m1, m1_ne, m1_lt, m1_le, m1_ge, m1_gt, m1_refl, ↓reduceIte, L0, L1, L2, L3, L4, L5, L6, L7, L8, L9, L10, L11, L15, L16, L17, L18, L20, L24, L26, L28, L31, L32, L35, L36, L48, L57, L59, L63, L64, L96, L97, L99, L100, L112, L122, L128, L200, L255, L256, L1000, L1024, L2000, L3000, L1000000, L1000000007, e6, e7, e36]
  · intro f b p hp ⟨hb, hb2⟩
    right
    have e1 : rd b 1 1 = nI (nP S) := by rw [hb 1 1 (by omega)]; exact pf_1 hI (Xw_pc hf)
    have hfb : fr Xw S b := hf.trans (hb.mono (fun c j h => by unfold Xw; omega))
    have e2 : nP b = nP S := pf_n (Xw_pc hfb)
    obtain ⟨b2, g1, g2, g3⟩ := gat33 (S := S) (a := b) (v := v) (p := p) (v1 := nI p) (fun S25 => f_X6_gatherTones_L10 _ f (nI (p + 1)) S25) hI hfb (by rw [hb 3 3 (by omega)]; exact h33) hv4 hp (fun t ht => (hb2 t ht).1)
    refine ⟨b2, ?_, hb.trans g2, fun t ht => ⟨(g3 t ht).1, (g3 t ht).2.trans ?_⟩⟩
    · show f_X6_gatherTones_L10 _ _ _ _ = _
      rw [f_X6_gatherTones_L10]
      simp (disch := omega) only [md_n, lt_eq, bd_some, gN, gN2, le_T, le_F, lt_T, lt_F, eq_T, eq_F, cN, plus_n, mul_n, rem_n, div_n, sub_n, re_T, re_F, rl_wr, rd_wl, ne_m1, m1_ne, m1_lt, m1_le, m1_ge, m1_gt, m1_refl, ↓reduceIte, L0, L1, L2, L3, L4, L5, L6, L7, L8, L9, L10, L11, L15, L16, L17, L18, L20, L24, L26, L28, L31, L32, L35, L36, L48, L57, L59, L63, L64, L96, L97, L99, L100, L112, L122, L128, L200, L255, L256, L1000, L1024, L2000, L3000, L1000000, L1000000007, e1, e2]
      exact g1
    · rw [(hb2 t ht).2]
      constructor
      · rintro (⟨q, hq, h⟩ | h)
        · exact ⟨q, by omega, h⟩
        · exact ⟨p, by omega, h⟩
      · rintro ⟨q, hq, h⟩
        by_cases c : q = p
        · subst c; exact Or.inr h
        · exact Or.inl ⟨q, by omega, h⟩
  · rw [o2 t ht]
    constructor
    · intro h; exact absurd h (by decide)
    · rintro ⟨p, hp, -⟩; omega
