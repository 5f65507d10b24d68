/-! ===== stale, hushed ===== -/
theorem repC.st1 {S b b' : St} {n T : Nat} {A : Ast} {s : Nat → Nat} (h : repC S n T A b) (hn : n ≤ 24) (hf : fr (fun c j => 300 ≤ c ∧ c < 348 ∧ c % 2 = 0 ∧ j = 6) b b') (h1 : ∀ c, c < n → (s c = 1 ↔ A.st c = 1)) (h0 : ∀ c, c < n → s c = 0 → A.st c = 0) (h6 : ∀ c, c < n → rd b' (300 + 2 * c) 6 = nI (s c)) : repC S n T (s, A.sd, A.bg, A.ts, A.en) b' := by
  obtain ⟨g1, g2, g3, g4, g5⟩ := h
  refine ⟨by rw [hf _ _ (by omega)]; exact g1, by rw [hf _ _ (by omega)]; exact g2, by rw [← g3]; unfold nC; rw [hf _ _ (by omega)], fun c hc => ?_, fun p hp => ?_⟩
  · obtain ⟨k1, k2, k3, k4, k5, k6⟩ := g4 c hc
    refine ⟨h6 c hc, by rw [hf _ _ (by omega)]; exact k2, by rw [hf _ _ (by omega)]; exact k3, by rw [hf _ _ (by omega)]; exact k4, fun z => by rw [hf _ _ (by omega)]; exact k5 (h0 c hc z), fun z => ?_⟩
    obtain ⟨m1, m2, w, m3, m4, m5⟩ := k6 ((h1 c hc).mp z)
    exact ⟨by rw [hf _ _ (by omega)]; exact m1, fun i hi => by rw [hf _ _ (by omega)]; exact m2 i hi, w, m3, by rw [hf _ _ (by omega)]; exact m4, m5⟩
  · rcases g5 p hp with ⟨c, c1, c2, c3, c4⟩ | ⟨c1, c2⟩
    · exact Or.inl ⟨c, c1, (h1 c c1).mpr c2, c3, by rw [hf _ _ (by omega)]; exact c4⟩
    · exact Or.inr ⟨fun c hc hz => c1 c hc ((h1 c hc).mp hz), by rw [hf _ _ (by omega)]; exact c2⟩
theorem repM.st1 {b b' : St} {n T : Nat} {A : Ast} {s : Nat → Nat} (h : repM n T A b) (hf : fr (fun c _ => c = 81) b b') (h1 : ∀ c, c < n → (s c = 1 → A.st c = 1)) (h6 : ∀ c, c < n → rd b' 81 c = nI (s c)) : repM n T (s, A.sd, A.bg, A.ts, A.en) b' := by
  obtain ⟨g1, g2, g4⟩ := h
  refine ⟨by rw [hf _ _ (by omega)]; exact g1, by rw [hf _ _ (by omega)]; exact g2, fun c hc => ?_⟩
  obtain ⟨k1, k2, k3, k4, k5⟩ := g4 c hc
  refine ⟨h6 c hc, by rw [hf _ _ (by omega)]; exact k2, by rw [hf _ _ (by omega)]; exact k3, by rw [hf _ _ (by omega)]; exact k4, fun z => ?_⟩
  obtain ⟨m1, m2⟩ := k5 (h1 c hc z)
  exact ⟨by rw [hf _ _ (by omega)]; exact m1, fun i hi => by rw [hf _ _ (by omega)]; exact m2 i hi⟩
theorem stlA_1 {S : St} {n T : Nat} {A : Ast} {c : Nat} : ((stlA S n T A).st c = 1 ↔ A.st c = 1) ∧ ((stlA S n T A).st c = 0 → A.st c = 0) := by
  show ((if c < n ∧ A.st c = 0 ∧ sl S c ≤ T then 4 else A.st c) = 1 ↔ A.st c = 1) ∧ ((if c < n ∧ A.st c = 0 ∧ sl S c ≤ T then 4 else A.st c) = 0 → A.st c = 0)
  split
  · constructor
    · constructor
      · intro h; omega
      · intro h; omega
    · intro h; omega
  · exact ⟨Iff.rfl, id⟩
theorem stlA_wf {S : St} {n T : Nat} {A : Ast} (h : wf S n A) : wf S n (stlA S n T A) := by
  obtain ⟨h1, h2⟩ := h
  refine ⟨fun c hc => ?_, fun c d hc hd e1 e2 e3 => h2 c d hc hd (stlA_1.1.mp e1) (stlA_1.1.mp e2) e3⟩
  obtain ⟨k1, k2, k3, k4⟩ := h1 c hc
  refine ⟨?_, fun z => k2 (stlA_1.2 z), k3, fun z => k4 (stlA_1.1.mp z)⟩
  show (if c < n ∧ A.st c = 0 ∧ sl S c ≤ T then 4 else A.st c) ≤ 5
  split <;> omega
theorem growStale_ok {S a : St} {n T : Nat} {A : Ast} (hS : Still S n T) (hf : fr XcC S a) (hw : wf S n A) (hR : repC S n T A a) : ∃ a', f_X7_growStale a = some ((), a') ∧ repC S n T (stlA S n T A) a' ∧ fr XcC S a' := by
  have h24 := hS.1
  have hT := hS.2.1
  unfold f_X7_growStale
  refine loopC (fun f (b : St) i => f_X7_growStale_L2 (fun S21 => some ((), S21)) f (nI i) b) (fun x => ∃ a', x = some ((), a') ∧ repC S n T (stlA S n T A) a' ∧ fr XcC S a')
    (fun i b => fr (fun c j => 300 ≤ c ∧ c < 348 ∧ c % 2 = 0 ∧ j = 6) a b ∧ ∀ c, c < n → rd b (300 + 2 * c) 6 = nI (if c < i ∧ A.st c = 0 ∧ sl S c ≤ T then 4 else A.st c)) n ?_ ?_ n 0 FU a (by omega) (by unfold FU; omega) ⟨fr.refl _ _, fun c hc => by rw [if_neg (by omega)]; exact (hR.2.2.2.1 c hc).1⟩
  · intro f b ⟨h1, h2⟩
    have e7 : rd b 43 7 = nI n := by rw [h1 _ _ (by omega)]; exact hR.1
    refine ⟨b, ?_, hR.st1 h24 h1 (fun c hc => stlA_1.1) (fun c hc => stlA_1.2) h2, hf.trans (h1.mono (fun c j h => by unfold XcC; omega))⟩
    rw [f_X7_growStale_L2]
    simp (disch := omega) only [md_n, lt_eq, bd_some, gN, gN2, le_T, le_F, lt_T, lt_F, eq_T, eq_F, cN, plus_n, mul_n, rem_n, div_n, sub_n, re_T, re_F, rl_wr, rd_wl, ne_m1, m1_ne, m1_lt, m1_le, m1_ge, m1_gt, m1_refl, ↓reduceIte, L0, L1, L2, L3, L4, L5, L6, L7, L8, L9, L10, L11, L15, L16, L17, L18, L20, L24, L26, L28, L31, L32, L35, L36, L48, L57, L59, L63, L64, L96, L97, L99, L100, L112, L122, L128, L200, L255, L256, L1000, L1024, L2000, L3000, L1000000, L1000000007, e7]
  · intro f b i hi ⟨h1, h2⟩
    right
    have e7 : rd b 43 7 = nI n := by rw [h1 _ _ (by omega)]; exact hR.1
    have e8 : rd b 43 8 = nI T := by rw [h1 _ _ (by omega)]; exact hR.2.1
    have e0 : nC b = n := by rw [← hR.2.2.1]; unfold nC; rw [h1 _ _ (by omega)]
    obtain ⟨-, -, -, -, -, ⟨k1, k2, -⟩⟩ := hS.2.2.1 i hi
    have e5 : rd b (300 + 2 * i) 5 = nI (sl S i) := by rw [h1 _ _ (by omega), hf _ _ (by unfold XcC Xsc Xw; omega)]; exact k2
    have e6 := h2 i hi
    rw [if_neg (by omega)] at e6
    have hst := (hw.1 i hi).1
    by_cases d : A.st i = 0 ∧ sl S i ≤ T
    · refine ⟨wr b (300 + 2 * i) 6 (nI 4), ?_, h1.wr (by omega), fun c hc => ?_⟩
      · rw [f_X7_growStale_L2]
        simp (disch := omega) only [md_n, lt_eq, bd_some, gN, gN2, le_T, le_F, lt_T, lt_F, eq_T, eq_F, cN, plus_n, mul_n, rem_n, div_n, sub_n, re_T, re_F, rl_wr, rd_wl, ne_m1, m1_ne, m1_lt, m1_le, m1_ge, m1_gt, m1_refl, ↓reduceIte, L0, L1, L2, L3, L4, L5, L6, L7, L8, L9, L10, L11, L15, L16, L17, L18, L20, L24, L26, L28, L31, L32, L35, L36, L48, L57, L59, L63, L64, L96, L97, L99, L100, L112, L122, L128, L200, L255, L256, L1000, L1024, L2000, L3000, L1000000, L1000000007, e7, e8, e0, e5, e6]
      · by_cases c1 : c = i
        · subst c1; rw [rw_eq, if_pos (by omega)]
        · rw [rw_ne (by omega), h2 c hc]
          by_cases c2 : c < i ∧ A.st c = 0 ∧ sl S c ≤ T
          · rw [if_pos c2, if_pos (by omega)]
          · rw [if_neg c2, if_neg (by omega)]
    · refine ⟨b, ?_, h1, fun c hc => ?_⟩
      · rw [f_X7_growStale_L2]
        by_cases d1 : A.st i = 0
        · simp (disch := omega) only [md_n, lt_eq, bd_some, gN, gN2, le_T, le_F, lt_T, lt_F, eq_T, eq_F, cN, plus_n, mul_n, rem_n, div_n, sub_n, re_T, re_F, rl_wr, rd_wl, ne_m1, m1_ne, m1_lt, m1_le, m1_ge, m1_gt, m1_refl, ↓reduceIte, L0, L1, L2, L3, L4, L5, L6, L7, L8, L9, L10, L11, L15, L16, L17, L18, L20, L24, L26, L28, L31, L32, L35, L36, L48, L57, L59, L63, L64, L96, L97, L99, L100, L112, L122, L128, L200, L255, L256, L1000, L1024, L2000, L3000, L1000000, L1000000007, e7, e8, e0, e5, e6]
        · simp (disch := omega) only [md_n, lt_eq, bd_some, gN, gN2, le_T, le_F, lt_T, lt_F, eq_T, eq_F, cN, plus_n, mul_n, rem_n, div_n, sub_n, re_T, re_F, rl_wr, rd_wl, ne_m1, m1_ne, m1_lt, m1_le, m1_ge, m1_gt, m1_refl, ↓reduceIte, L0, L1, L2, L3, L4, L5, L6, L7, L8, L9, L10, L11, L15, L16, L17, L18, L20, L24, L26, L28, L31, L32, L35, L36, L48, L57, L59, L63, L64, L96, L97, L99, L100, L112, L122, L128, L200, L255, L256, L1000, L1024, L2000, L3000, L1000000, L1000000007, e7, e8, e0, e5, e6]
      · rw [h2 c hc]
        by_cases c2 : c < i ∧ A.st c = 0 ∧ sl S c ≤ T
        · rw [if_pos c2, if_pos (by omega)]
        · rw [if_neg c2, if_neg]
          rintro ⟨z1, z2⟩
          by_cases c1 : c = i
          · subst c1; exact d z2
          · exact c2 ⟨by omega, z2⟩
theorem staleM_ok {S a : St} {n T : Nat} {A : Ast} (hS : Still S n T) (hf : fr XcM S a) (hw : wf S n A) (hR : repM n T A a) (K : St → Option (Unit × St)) : ∃ a', f_X11_goTick_L2 K FU (nI 0) a = K a' ∧ repM n T (stlA S n T A) a' ∧ fr XcM S a' := by
  have h24 := hS.1
  have hT := hS.2.1
  refine loopC (fun f (b : St) i => f_X11_goTick_L2 K f (nI i) b) (fun x => ∃ a', x = K a' ∧ repM n T (stlA S n T A) a' ∧ fr XcM S a')
    (fun i b => fr (fun c _ => c = 81) a b ∧ ∀ c, c < n → rd b 81 c = nI (if c < i ∧ A.st c = 0 ∧ sl S c ≤ T then 4 else A.st c)) n ?_ ?_ n 0 FU a (by omega) (by unfold FU; omega) ⟨fr.refl _ _, fun c hc => by rw [if_neg (by omega)]; exact (hR.2.2 c hc).1⟩
  · intro f b ⟨h1, h2⟩
    have e7 : rd b 54 32 = nI n := by rw [h1 _ _ (by omega)]; exact hR.1
    refine ⟨b, ?_, hR.st1 h1 (fun c hc => stlA_1.1.mp) h2, hf.trans (h1.mono (fun c j h => by unfold XcM; omega))⟩
    rw [f_X11_goTick_L2]
    simp (disch := omega) only [md_n, lt_eq, bd_some, gN, gN2, le_T, le_F, lt_T, lt_F, eq_T, eq_F, cN, plus_n, mul_n, rem_n, div_n, sub_n, re_T, re_F, rl_wr, rd_wl, ne_m1, m1_ne, m1_lt, m1_le, m1_ge, m1_gt, m1_refl, ↓reduceIte, L0, L1, L2, L3, L4, L5, L6, L7, L8, L9, L10, L11, L15, L16, L17, L18, L20, L24, L26, L28, L31, L32, L35, L36, L48, L57, L59, L63, L64, L96, L97, L99, L100, L112, L122, L128, L200, L255, L256, L1000, L1024, L2000, L3000, L1000000, L1000000007, e7]
  · intro f b i hi ⟨h1, h2⟩
    right
    have e7 : rd b 54 32 = nI n := by rw [h1 _ _ (by omega)]; exact hR.1
    have e8 : rd b 54 31 = nI T := by rw [h1 _ _ (by omega)]; exact hR.2.1
    obtain ⟨-, -, -, -, -, ⟨k1, -, k2⟩⟩ := hS.2.2.1 i hi
    have e5 : rd b 79 i = nI (sl S i) := by rw [h1 _ _ (by omega), hf _ _ (by unfold XcM Xsm Xm; omega)]; exact k2
    have e6 := h2 i hi
    rw [if_neg (by omega)] at e6
    have hst := (hw.1 i hi).1
    by_cases d : A.st i = 0 ∧ sl S i ≤ T
    · refine ⟨wr b 81 i (nI 4), ?_, h1.wr rfl, fun c hc => ?_⟩
      · rw [f_X11_goTick_L2]
        simp (disch := omega) only [md_n, lt_eq, bd_some, gN, gN2, le_T, le_F, lt_T, lt_F, eq_T, eq_F, cN, plus_n, mul_n, rem_n, div_n, sub_n, re_T, re_F, rl_wr, rd_wl, ne_m1, m1_ne, m1_lt, m1_le, m1_ge, m1_gt, m1_refl, ↓reduceIte, L0, L1, L2, L3, L4, L5, L6, L7, L8, L9, L10, L11, L15, L16, L17, L18, L20, L24, L26, L28, L31, L32, L35, L36, L48, L57, L59, L63, L64, L96, L97, L99, L100, L112, L122, L128, L200, L255, L256, L1000, L1024, L2000, L3000, L1000000, L1000000007, e7, e8, e5, e6]
      · by_cases c1 : c = i
        · subst c1; rw [rw_eq, if_pos (by omega)]
        · rw [rw_ne (by omega), h2 c hc]
          by_cases c2 : c < i ∧ A.st c = 0 ∧ sl S c ≤ T
          · rw [if_pos c2, if_pos (by omega)]
          · rw [if_neg c2, if_neg (by omega)]
    · refine ⟨wr b 81 i (nI (A.st i)), ?_, h1.wr rfl, fun c hc => ?_⟩
      · rw [f_X11_goTick_L2]
        by_cases d1 : A.st i = 0
        · simp (disch := omega) only [md_n, lt_eq, bd_some, gN, gN2, le_T, le_F, lt_T, lt_F, eq_T, eq_F, cN, plus_n, mul_n, rem_n, div_n, sub_n, re_T, re_F, rl_wr, rd_wl, ne_m1, m1_ne, m1_lt, m1_le, m1_ge, m1_gt, m1_refl, ↓reduceIte, L0, L1, L2, L3, L4, L5, L6, L7, L8, L9, L10, L11, L15, L16, L17, L18, L20, L24, L26, L28, L31, L32, L35, L36, L48, L57, L59, L63, L64, L96, L97, L99, L100, L112, L122, L128, L200, L255, L256, L1000, L1024, L2000, L3000, L1000000, L1000000007, e7, e8, e5, e6]
        · simp (disch := omega) only [md_n, lt_eq, bd_some, gN, gN2, le_T, le_F, lt_T, lt_F, eq_T, eq_F, cN, plus_n, mul_n, rem_n, div_n, sub_n, re_T, re_F, rl_wr, rd_wl, ne_m1, m1_ne, m1_lt, m1_le, m1_ge, m1_gt, m1_refl, ↓reduceIte, L0, L1, L2, L3, L4, L5, L6, L7, L8, L9, L10, L11, L15, L16, L17, L18, L20, L24, L26, L28, L31, L32, L35, L36, L48, L57, L59, L63, L64, L96, L97, L99, L100, L112, L122, L128, L200, L255, L256, L1000, L1024, L2000, L3000, L1000000, L1000000007, e7, e8, e5, e6]
      · by_cases c1 : c = i
        · subst c1; rw [rw_eq, if_neg (fun z => d z.2)]
        · rw [rw_ne (by omega), h2 c hc]
          by_cases c2 : c < i ∧ A.st c = 0 ∧ sl S c ≤ T
          · rw [if_pos c2, if_pos (by omega)]
          · rw [if_neg c2, if_neg (by omega)]
