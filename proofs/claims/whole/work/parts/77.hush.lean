theorem gB1 {β : Type} {x : Option β} [Decidable (bz (nI 1))] : gd_ (bz (nI 1)) x = x := if_pos (Or.inr rfl)
theorem gB0 {β : Type} {x : Option β} [Decidable (bz (nI 0))] : gd_ (bz (nI 0)) x = x := if_pos (Or.inl rfl)
theorem reached_ok {S a : St} {p q : Nat} (hN : I_near S) (h46 : ∀ j, rd a 46 j = rd S 46 j) (hp : p < 6) (hq : q < 6) : f_X7_isReached (nI p) (nI q) a = some (bI (nr S p q), a) := by
  obtain ⟨e1, e2, -⟩ := hN p hp
  unfold f_X7_isReached nr
  have hb : ((ushr (nI (nv S 46 p)) (nI q) &&& nI 1) = nI 1) = (tb (nv S 46 p) q = true) := tb_c (by omega) (by omega)
  cases ht : tb (nv S 46 p) q
  · have hb' : ((ushr (nI (nv S 46 p)) (nI q) &&& nI 1) = nI 1) = False := by rw [hb, ht]; exact eq_false (by decide)
    simp (disch := omega) only [md_n, lt_eq, bd_some, gN, gN2, le_T, le_F, lt_T, lt_F, eq_T, eq_F, cN, plus_n, mul_n, rem_n, div_n, sub_n, re_T, re_F, rl_wr, rd_wl, ne_m1, m1_ne, m1_lt, m1_le, m1_ge, m1_gt, m1_refl, ↓reduceIte, L0, L1, L2, L3, L4, L5, L6, L7, L8, L9, L10, L11, L15, L16, L17, L18, L20, L24, L26, L28, L31, L32, L35, L36, L48, L57, L59, L63, L64, L96, L97, L99, L100, L112, L122, L128, L200, L255, L256, L1000, L1024, L2000, L3000, L1000000, L1000000007, h46, e1, hb']
    rfl
  · have hb' : ((ushr (nI (nv S 46 p)) (nI q) &&& nI 1) = nI 1) = True := by rw [hb, ht]; exact eq_true rfl
    simp (disch := omega) only [md_n, lt_eq, bd_some, gN, gN2, le_T, le_F, lt_T, lt_F, eq_T, eq_F, cN, plus_n, mul_n, rem_n, div_n, sub_n, re_T, re_F, rl_wr, rd_wl, ne_m1, m1_ne, m1_lt, m1_le, m1_ge, m1_gt, m1_refl, ↓reduceIte, L0, L1, L2, L3, L4, L5, L6, L7, L8, L9, L10, L11, L15, L16, L17, L18, L20, L24, L26, L28, L31, L32, L35, L36, L48, L57, L59, L63, L64, L96, L97, L99, L100, L112, L122, L128, L200, L255, L256, L1000, L1024, L2000, L3000, L1000000, L1000000007, h46, e1, hb']
    rfl
theorem near_ok {S a : St} {n T c o : Nat} (hS : Still S n T) (h75 : ∀ j, rd a 75 j = rd S 75 j) (h72 : ∀ j, rd a 72 j = rd S 72 j) (hc : c < n) (ho : o < n) : f_X11_isNear (nI c) (nI o) a = some (bI (nr S (pa S c) (pa S o)), a) := by
  have h24 := hS.1
  obtain ⟨⟨p1, p2, p3⟩, -⟩ := hS.2.2.1 c hc
  obtain ⟨⟨q1, q2, q3⟩, -⟩ := hS.2.2.1 o ho
  obtain ⟨e1, e2, e3, e4, e5⟩ := hS.2.2.2.1 _ p1
  have f1 : rd a 75 c = nI (pa S c) := by rw [h75]; exact p3
  have f2 : rd a 75 o = nI (pa S o) := by rw [h75]; exact q3
  have f3 : rd a 72 (pa S c) = nI (nv S 72 (pa S c)) := by rw [h72]; exact e3
  have e6 := e5 _ q1
  unfold f_X11_isNear nr
  rw [e6]
  by_cases d : pa S c = pa S o
  · rw [decide_eq_true d, Bool.true_or]
    simp (disch := omega) only [md_n, lt_eq, bd_some, gN, gN2, le_T, le_F, lt_T, lt_F, eq_T, eq_F, cN, plus_n, mul_n, rem_n, div_n, sub_n, re_T, re_F, rl_wr, rd_wl, ne_m1, m1_ne, m1_lt, m1_le, m1_ge, m1_gt, m1_refl, ↓reduceIte, L0, L1, L2, L3, L4, L5, L6, L7, L8, L9, L10, L11, L15, L16, L17, L18, L20, L24, L26, L28, L31, L32, L35, L36, L48, L57, L59, L63, L64, L96, L97, L99, L100, L112, L122, L128, L200, L255, L256, L1000, L1024, L2000, L3000, L1000000, L1000000007, f1, f2]
    rfl
  · rw [decide_eq_false d, Bool.false_or]
    have hb : ((nI (nv S 72 (pa S c)) >>> (nI (pa S o) &&& nI 31) &&& nI 1) = nI 1) = (tb (nv S 72 (pa S c)) (pa S o) = true) := tb_m (by omega) (by omega)
    cases ht : tb (nv S 72 (pa S c)) (pa S o)
    · have hb' : ((nI (nv S 72 (pa S c)) >>> (nI (pa S o) &&& nI 31) &&& nI 1) = nI 1) = False := by rw [hb, ht]; exact eq_false (by decide)
      simp (disch := omega) only [md_n, lt_eq, bd_some, gN, gN2, le_T, le_F, lt_T, lt_F, eq_T, eq_F, cN, plus_n, mul_n, rem_n, div_n, sub_n, re_T, re_F, rl_wr, rd_wl, ne_m1, m1_ne, m1_lt, m1_le, m1_ge, m1_gt, m1_refl, ↓reduceIte, L0, L1, L2, L3, L4, L5, L6, L7, L8, L9, L10, L11, L15, L16, L17, L18, L20, L24, L26, L28, L31, L32, L35, L36, L48, L57, L59, L63, L64, L96, L97, L99, L100, L112, L122, L128, L200, L255, L256, L1000, L1024, L2000, L3000, L1000000, L1000000007, f1, f2, f3, hb']
      rfl
    · have hb' : ((nI (nv S 72 (pa S c)) >>> (nI (pa S o) &&& nI 31) &&& nI 1) = nI 1) = True := by rw [hb, ht]; exact eq_true rfl
      simp (disch := omega) only [md_n, lt_eq, bd_some, gN, gN2, le_T, le_F, lt_T, lt_F, eq_T, eq_F, cN, plus_n, mul_n, rem_n, div_n, sub_n, re_T, re_F, rl_wr, rd_wl, ne_m1, m1_ne, m1_lt, m1_le, m1_ge, m1_gt, m1_refl, ↓reduceIte, L0, L1, L2, L3, L4, L5, L6, L7, L8, L9, L10, L11, L15, L16, L17, L18, L20, L24, L26, L28, L31, L32, L35, L36, L48, L57, L59, L63, L64, L96, L97, L99, L100, L112, L122, L128, L200, L255, L256, L1000, L1024, L2000, L3000, L1000000, L1000000007, f1, f2, f3, hb']
      rfl
theorem repC.hush {S b b' : St} {n T : Nat} {A : Ast} {t : Nat → Bool} (h : repC S n T A b) (hn : n ≤ 24) (hf : fr (fun c j => 300 ≤ c ∧ c < 348 ∧ c % 2 = 0 ∧ j = 9) b b') (h9 : ∀ c, c < n → rd b' (300 + 2 * c) 9 = bI (t c)) : repC S n T (A.st, A.sd, A.bg, t, A.en) b' := by
  obtain ⟨g1, g2, g3, g4, g5⟩ := h
  refine ⟨by rw [hf _ _ (by omega)]; exact g1, by rw [hf _ _ (by omega)]; exact g2, by rw [← g3]; unfold nC; rw [hf _ _ (by omega)], fun c hc => ?_, fun p hp => ?_⟩
  · obtain ⟨k1, k2, k3, k4, k5, k6⟩ := g4 c hc
    refine ⟨by rw [hf _ _ (by omega)]; exact k1, by rw [hf _ _ (by omega)]; exact k2, by rw [hf _ _ (by omega)]; exact k3, h9 c hc, fun z => by rw [hf _ _ (by omega)]; exact k5 z, fun z => ?_⟩
    obtain ⟨m1, m2, w, m3, m4, m5⟩ := k6 z
    exact ⟨by rw [hf _ _ (by omega)]; exact m1, fun i hi => by rw [hf _ _ (by omega)]; exact m2 i hi, w, m3, by rw [hf _ _ (by omega)]; exact m4, m5⟩
  · rw [hf _ _ (by omega)]; exact g5 p hp
theorem hush_ok {S a : St} {n T : Nat} {A : Ast} {c : Nat} (hS : Still S n T) (hf : fr XcC S a) (hw : wf S n A) (hR : repC S n T A a) (hc : c < n) : ∃ a', f_X7_hush (nI (pa S c)) a = some ((), a') ∧ repC S n T (hushA S n c A) a' ∧ fr XcC S a' := by
  have h24 := hS.1
  obtain ⟨⟨hp, -⟩, -⟩ := hS.2.2.1 c hc
  unfold f_X7_hush
  refine loopC (fun f (b : St) i => f_X7_hush_L2 (fun S26 => some ((), S26)) (nI (pa S c)) f (nI i) b) (fun x => ∃ a', x = some ((), a') ∧ repC S n T (hushA S n c A) a' ∧ fr XcC S a')
    (fun i b => fr (fun c j => 300 ≤ c ∧ c < 348 ∧ c % 2 = 0 ∧ j = 9) a b ∧ ∀ o, o < n → rd b (300 + 2 * o) 9 = bI (A.ts o || (decide (pa S o < i) && heardBy S A c o && !(da S o)))) 6 ?_ ?_ 6 0 FU a (by omega) (by unfold FU; omega) ⟨fr.refl _ _, fun o ho => by rw [decide_eq_false (by omega), Bool.false_and, Bool.false_and, Bool.or_false]; exact (hR.2.2.2.1 o ho).2.2.2.1⟩
  · intro f b ⟨h1, h2⟩
    refine ⟨b, ?_, hR.hush h24 h1 (fun o ho => ?_), hf.trans (h1.mono (fun c j h => by unfold XcC; omega))⟩
    · rw [f_X7_hush_L2]
      simp (disch := omega) only [md_n, lt_eq, bd_some, gN, gN2, le_T, le_F, lt_T, lt_F, eq_T, eq_F, cN, plus_n, mul_n, rem_n, div_n, sub_n, re_T, re_F, rl_wr, rd_wl, ne_m1, m1_ne, m1_lt, m1_le, m1_ge, m1_gt, m1_refl, ↓reduceIte, L0, L1, L2, L3, L4, L5, L6, L7, L8, L9, L10, L11, L15, L16, L17, L18, L20, L24, L26, L28, L31, L32, L35, L36, L48, L57, L59, L63, L64, L96, L97, L99, L100, L112, L122, L128, L200, L255, L256, L1000, L1024, L2000, L3000, L1000000, L1000000007]
    · rw [h2 o ho, decide_eq_true (hS.2.2.1 o ho).1.1, decide_eq_true ho]
  · intro f b q hq ⟨h1, h2⟩
    right
    have hfb : fr XcC S b := hf.trans (h1.mono (fun c j h => by unfold XcC; omega))
    have hre := reached_ok (S := S) (a := b) hS.2.2.2.1 (fun j => hfb _ _ (by unfold XcC Xsc Xw; omega)) hp hq
    have keep : (∀ o, o < n → pa S o = q → (heardBy S A c o && !(da S o)) = false) → ∀ o, o < n → rd b (300 + 2 * o) 9 = bI (A.ts o || (decide (pa S o < q + 1) && heardBy S A c o && !(da S o))) := fun hz o ho => by
      rw [h2 o ho]
      by_cases d : pa S o = q
      · rw [Bool.and_assoc, Bool.and_assoc, hz o ho d, Bool.and_false, Bool.and_false]
      · have : decide (pa S o < q) = decide (pa S o < q + 1) := decide_eq_decide.mpr (by omega)
        rw [this]
    cases hnr : nr S (pa S c) q
    · rw [hnr] at hre
      have hre2 : f_X7_isReached (nI (pa S c)) (nI q) b = some (nI 0, b) := hre
      refine ⟨b, ?_, h1, keep (fun o ho e => by unfold heardBy; rw [e, hnr, Bool.and_false, Bool.false_and])⟩
      rw [f_X7_hush_L2]
      simp (disch := omega) only [md_n, lt_eq, bd_some, gN, gN2, le_T, le_F, lt_T, lt_F, eq_T, eq_F, cN, plus_n, mul_n, rem_n, div_n, sub_n, re_T, re_F, rl_wr, rd_wl, ne_m1, m1_ne, m1_lt, m1_le, m1_ge, m1_gt, m1_refl, ↓reduceIte, L0, L1, L2, L3, L4, L5, L6, L7, L8, L9, L10, L11, L15, L16, L17, L18, L20, L24, L26, L28, L31, L32, L35, L36, L48, L57, L59, L63, L64, L96, L97, L99, L100, L112, L122, L128, L200, L255, L256, L1000, L1024, L2000, L3000, L1000000, L1000000007, hre2]
    · rw [hnr] at hre
      have hre2 : f_X7_isReached (nI (pa S c)) (nI q) b = some (nI 1, b) := hre
      have e47 : rd b 47 q = rd a 47 q := h1 _ _ (by omega)
      rcases hR.2.2.2.2 q hq with ⟨o, o1, o2, o3, o4⟩ | ⟨o1, o2⟩
      · have e3 : rd b (300 + 2 * o) 3 = bI (da S o) := by rw [hfb _ _ (by unfold XcC Xsc Xw; omega)]; exact (hS.2.2.1 o o1).2.2.2.1.1
        have e0 : nC b = n := by rw [← hR.2.2.1]; unfold nC; rw [h1 _ _ (by omega)]
        have huniq : ∀ o', o' < n → pa S o' = q → A.st o' = 1 → o' = o := fun o' h8 h9 h10 => hw.2 o' o h8 o1 h10 o2 (by rw [h9, o3])
        rw [← e47] at o4
        cases hd : da S o
        · rw [hd] at e3
          have e3' : rd b (300 + 2 * o) 3 = nI 0 := e3
          refine ⟨wr b (300 + 2 * o) 9 (nI 1), ?_, h1.wr (by omega), fun o' ho' => ?_⟩
          · rw [f_X7_hush_L2]
            simp (disch := omega) only [md_n, lt_eq, bd_some, gN, gN2, le_T, le_F, lt_T, lt_F, eq_T, eq_F, cN, plus_n, mul_n, rem_n, div_n, sub_n, re_T, re_F, rl_wr, rd_wl, ne_m1, m1_ne, m1_lt, m1_le, m1_ge, m1_gt, m1_refl, ↓reduceIte, L0, L1, L2, L3, L4, L5, L6, L7, L8, L9, L10, L11, L15, L16, L17, L18, L20, L24, L26, L28, L31, L32, L35, L36, L48, L57, L59, L63, L64, L96, L97, L99, L100, L112, L122, L128, L200, L255, L256, L1000, L1024, L2000, L3000, L1000000, L1000000007, hre2, o4, e0, e3']
          · by_cases d : o' = o
            · subst d
              rw [rw_eq, decide_eq_true (show pa S o' < q + 1 by omega), hd]
              unfold heardBy
              rw [o3, hnr, decide_eq_true o2]
              cases A.ts o' <;> rfl
            · rw [rw_ne (by omega), h2 o' ho']
              by_cases d2 : pa S o' = q
              · have : A.st o' ≠ 1 := fun z => d (huniq o' ho' d2 z)
                have hh : heardBy S A c o' = false := by unfold heardBy; rw [decide_eq_false this, Bool.false_and]
                rw [hh, Bool.and_false, Bool.and_false]
              · have : decide (pa S o' < q) = decide (pa S o' < q + 1) := decide_eq_decide.mpr (by omega)
                rw [this]
        · rw [hd] at e3
          have e3' : rd b (300 + 2 * o) 3 = nI 1 := e3
          refine ⟨b, ?_, h1, keep (fun o' ho' e => ?_)⟩
          · rw [f_X7_hush_L2]
            simp (disch := omega) only [md_n, lt_eq, bd_some, gN, gN2, le_T, le_F, lt_T, lt_F, eq_T, eq_F, cN, plus_n, mul_n, rem_n, div_n, sub_n, re_T, re_F, rl_wr, rd_wl, ne_m1, m1_ne, m1_lt, m1_le, m1_ge, m1_gt, m1_refl, ↓reduceIte, L0, L1, L2, L3, L4, L5, L6, L7, L8, L9, L10, L11, L15, L16, L17, L18, L20, L24, L26, L28, L31, L32, L35, L36, L48, L57, L59, L63, L64, L96, L97, L99, L100, L112, L122, L128, L200, L255, L256, L1000, L1024, L2000, L3000, L1000000, L1000000007, hre2, o4, e0, e3']
          · by_cases d : o' = o
            · subst d; rw [hd]; simp
            · have : A.st o' ≠ 1 := fun z => d (huniq o' ho' e z)
              unfold heardBy; rw [decide_eq_false this, Bool.false_and, Bool.false_and]
      · have e4 : rd b 47 q = -nI 1 := by rw [e47]; exact o2
        refine ⟨b, ?_, h1, keep (fun o' ho' e => ?_)⟩
        · rw [f_X7_hush_L2]
          simp (disch := omega) only [md_n, lt_eq, bd_some, gN, gN2, le_T, le_F, lt_T, lt_F, eq_T, eq_F, cN, plus_n, mul_n, rem_n, div_n, sub_n, re_T, re_F, rl_wr, rd_wl, ne_m1, m1_ne, m1_lt, m1_le, m1_ge, m1_gt, m1_refl, ↓reduceIte, L0, L1, L2, L3, L4, L5, L6, L7, L8, L9, L10, L11, L15, L16, L17, L18, L20, L24, L26, L28, L31, L32, L35, L36, L48, L57, L59, L63, L64, L96, L97, L99, L100, L112, L122, L128, L200, L255, L256, L1000, L1024, L2000, L3000, L1000000, L1000000007, hre2, e4]
        · have : A.st o' ≠ 1 := fun z => o1 o' ho' z e
          unfold heardBy; rw [decide_eq_false this, Bool.false_and, Bool.false_and]
theorem hushM_ok {S a : St} {n T : Nat} {A : Ast} {c : Nat} (hS : Still S n T) (hf : fr XcM S a) (hw : wf S n A) (hR : repM n T A a) (hc : c < n) (K : Int32 → St → Option (Unit × St)) : ∃ a', f_X11_goTick_L85 K (nI c) FU (nI 1) (nI 0) a = K (bI (free S n A c)) a' ∧ repM n T (hushA S n c A) a' ∧ fr XcM S a' := by
  have h24 := hS.1
  refine loopC (fun f (x : Bool × St) i => f_X11_goTick_L85 K (nI c) f (bI x.1) (nI i) x.2) (fun x => ∃ a', x = K (bI (free S n A c)) a' ∧ repM n T (hushA S n c A) a' ∧ fr XcM S a')
    (fun i x => x.1 = (List.range i).all (fun o => !(heardBy S A c o)) ∧ fr (fun c _ => c = 84) a x.2 ∧ ∀ o, o < n → rd x.2 84 o = bI (A.ts o || (decide (o < i) && heardBy S A c o && !(da S o)))) n ?_ ?_ n 0 FU (true, a) (by omega) (by unfold FU; omega) ⟨rfl, fr.refl _ _, fun o ho => by rw [decide_eq_false (by omega), Bool.false_and, Bool.false_and, Bool.or_false]; exact (hR.2.2 o ho).2.2.2.1⟩
  · rintro f ⟨fb, b⟩ ⟨h0, h1, h2⟩
    replace h0 : fb = free S n A c := h0
    have e7 : rd b 54 32 = nI n := by rw [h1 _ _ (by omega)]; exact hR.1
    refine ⟨b, ?_, ?_, hf.trans (h1.mono (fun c j h => by unfold XcM; omega))⟩
    · show f_X11_goTick_L85 _ _ _ _ _ _ = _
      rw [f_X11_goTick_L85, h0]
      simp (disch := omega) only [md_n, lt_eq, bd_some, gN, gN2, le_T, le_F, lt_T, lt_F, eq_T, eq_F, cN, plus_n, mul_n, rem_n, div_n, sub_n, re_T, re_F, rl_wr, rd_wl, ne_m1, m1_ne, m1_lt, m1_le, m1_ge, m1_gt, m1_refl, ↓reduceIte, L0, L1, L2, L3, L4, L5, L6, L7, L8, L9, L10, L11, L15, L16, L17, L18, L20, L24, L26, L28, L31, L32, L35, L36, L48, L57, L59, L63, L64, L96, L97, L99, L100, L112, L122, L128, L200, L255, L256, L1000, L1024, L2000, L3000, L1000000, L1000000007, e7]
    · obtain ⟨g1, g2, g4⟩ := hR
      refine ⟨e7, by rw [h1 _ _ (by omega)]; exact g2, fun o ho => ?_⟩
      obtain ⟨k1, k2, k3, k4, k5⟩ := g4 o ho
      refine ⟨by rw [h1 _ _ (by omega)]; exact k1, by rw [h1 _ _ (by omega)]; exact k2, by rw [h1 _ _ (by omega)]; exact k3, ?_, fun z => ?_⟩
      · exact h2 o ho
      · obtain ⟨m1, m2⟩ := k5 z
        exact ⟨by rw [h1 _ _ (by omega)]; exact m1, fun i hi => by rw [h1 _ _ (by omega)]; exact m2 i hi⟩
  · rintro f ⟨fb, b⟩ o ho ⟨h0, h1, h2⟩
    replace h0 : fb = (List.range o).all (fun o => !(heardBy S A c o)) := h0
    replace h1 : fr (fun c _ => c = 84) a b := h1
    replace h2 : ∀ o', o' < n → rd b 84 o' = bI (A.ts o' || (decide (o' < o) && heardBy S A c o' && !(da S o'))) := h2
    right
    have e7 : rd b 54 32 = nI n := by rw [h1 _ _ (by omega)]; exact hR.1
    have hfb : fr XcM S b := hf.trans (h1.mono (fun c j h => by unfold XcM; omega))
    have e81 : rd b 81 o = nI (A.st o) := by rw [h1 _ _ (by omega)]; exact (hR.2.2 o ho).1
    have hst := (hw.1 o ho).1
    have hnear := near_ok (S := S) (a := b) hS (fun j => hfb _ _ (by unfold XcM Xsm Xm; omega)) (fun j => hfb _ _ (by unfold XcM Xsm Xm; omega)) hc ho
    have eall : (List.range (o + 1)).all (fun o => !(heardBy S A c o)) = (fb && !(heardBy S A c o)) := by rw [List.range_succ, List.all_append, h0]; simp
    have keep : (heardBy S A c o && !(da S o)) = false → ∀ o', o' < n → rd b 84 o' = bI (A.ts o' || (decide (o' < o + 1) && heardBy S A c o' && !(da S o'))) := fun hz o' ho' => by
      rw [h2 o' ho']
      by_cases d : o' = o
      · subst d; rw [Bool.and_assoc, Bool.and_assoc, hz, Bool.and_false, Bool.and_false]
      · have : decide (o' < o) = decide (o' < o + 1) := decide_eq_decide.mpr (by omega)
        rw [this]
    by_cases d1 : A.st o = 1
    · cases hnr : nr S (pa S c) (pa S o)
      · rw [hnr] at hnear
        have hn2 : f_X11_isNear (nI c) (nI o) b = some (nI 0, b) := hnear
        have hh : heardBy S A c o = false := by unfold heardBy; rw [hnr, Bool.and_false]
        refine ⟨(fb, b), ?_, by rw [eall, hh]; simp, h1, keep (by rw [hh, Bool.false_and])⟩
        show f_X11_goTick_L85 _ _ _ _ _ _ = f_X11_goTick_L85 _ _ _ _ _ _
        rw [f_X11_goTick_L85]
        simp (disch := omega) only [md_n, lt_eq, bd_some, gN, gN2, le_T, le_F, lt_T, lt_F, eq_T, eq_F, cN, plus_n, mul_n, rem_n, div_n, sub_n, re_T, re_F, rl_wr, rd_wl, ne_m1, m1_ne, m1_lt, m1_le, m1_ge, m1_gt, m1_refl, ↓reduceIte, L0, L1, L2, L3, L4, L5, L6, L7, L8, L9, L10, L11, L15, L16, L17, L18, L20, L24, L26, L28, L31, L32, L35, L36, L48, L57, L59, L63, L64, L96, L97, L99, L100, L112, L122, L128, L200, L255, L256, L1000, L1024, L2000, L3000, L1000000, L1000000007, e7, e81, hn2]
      · rw [hnr] at hnear
        have hn2 : f_X11_isNear (nI c) (nI o) b = some (nI 1, b) := hnear
        have hh : heardBy S A c o = true := by unfold heardBy; rw [hnr, decide_eq_true d1]; rfl
        have e84 : rd b 84 o = bI (A.ts o) := by rw [h2 o ho, decide_eq_false (by omega), Bool.false_and, Bool.false_and, Bool.or_false]
        have e80 : rd b 80 o = bI (da S o) := by rw [hfb _ _ (by unfold XcM Xsm Xm; omega)]; exact (hS.2.2.1 o ho).2.2.2.1.2
        have fin : ∀ z, z = (A.ts o || !(da S o)) → (false = (List.range (o + 1)).all (fun o => !(heardBy S A c o))) ∧ fr (fun c _ => c = 84) a (wr b 84 o (bI z)) ∧ ∀ o', o' < n → rd (wr b 84 o (bI z)) 84 o' = bI (A.ts o' || (decide (o' < o + 1) && heardBy S A c o' && !(da S o'))) := by
          intro z hz
          refine ⟨by rw [eall, hh]; simp, h1.wr rfl, fun o' ho' => ?_⟩
          by_cases d : o' = o
          · subst d; rw [rw_eq, hz, decide_eq_true (by omega), hh, Bool.true_and, Bool.true_and]
          · rw [rw_ne (by omega), h2 o' ho']
            have : decide (o' < o) = decide (o' < o + 1) := decide_eq_decide.mpr (by omega)
            rw [this]
        cases hts : A.ts o
        · rw [hts] at e84
          have e84' : rd b 84 o = nI 0 := e84
          cases hd : da S o
          · rw [hd] at e80
            have e80' : rd b 80 o = nI 0 := e80
            refine ⟨(false, wr b 84 o (bI true)), ?_, fin true (by rw [hts, hd]; rfl)⟩
            show f_X11_goTick_L85 _ _ _ _ _ _ = f_X11_goTick_L85 _ _ _ (nI 0) _ (wr b 84 o (nI 1))
            rw [f_X11_goTick_L85]
            simp (disch := omega) only [md_n, lt_eq, bd_some, gN, gN2, le_T, le_F, lt_T, lt_F, eq_T, eq_F, cN, plus_n, mul_n, rem_n, div_n, sub_n, re_T, re_F, rl_wr, rd_wl, ne_m1, m1_ne, m1_lt, m1_le, m1_ge, m1_gt, m1_refl, ↓reduceIte, L0, L1, L2, L3, L4, L5, L6, L7, L8, L9, L10, L11, L15, L16, L17, L18, L20, L24, L26, L28, L31, L32, L35, L36, L48, L57, L59, L63, L64, L96, L97, L99, L100, L112, L122, L128, L200, L255, L256, L1000, L1024, L2000, L3000, L1000000, L1000000007, e7, e81, hn2, e84', e80', gB1, gB0]
          · rw [hd] at e80
            have e80' : rd b 80 o = nI 1 := e80
            refine ⟨(false, wr b 84 o (bI false)), ?_, fin false (by rw [hts, hd]; rfl)⟩
            show f_X11_goTick_L85 _ _ _ _ _ _ = f_X11_goTick_L85 _ _ _ (nI 0) _ (wr b 84 o (nI 0))
            rw [f_X11_goTick_L85]
            simp (disch := omega) only [md_n, lt_eq, bd_some, gN, gN2, le_T, le_F, lt_T, lt_F, eq_T, eq_F, cN, plus_n, mul_n, rem_n, div_n, sub_n, re_T, re_F, rl_wr, rd_wl, ne_m1, m1_ne, m1_lt, m1_le, m1_ge, m1_gt, m1_refl, ↓reduceIte, L0, L1, L2, L3, L4, L5, L6, L7, L8, L9, L10, L11, L15, L16, L17, L18, L20, L24, L26, L28, L31, L32, L35, L36, L48, L57, L59, L63, L64, L96, L97, L99, L100, L112, L122, L128, L200, L255, L256, L1000, L1024, L2000, L3000, L1000000, L1000000007, e7, e81, hn2, e84', e80', gB1, gB0]
        · rw [hts] at e84
          have e84' : rd b 84 o = nI 1 := e84
          refine ⟨(false, wr b 84 o (bI true)), ?_, fin true (by rw [hts]; rfl)⟩
          show f_X11_goTick_L85 _ _ _ _ _ _ = f_X11_goTick_L85 _ _ _ (nI 0) _ (wr b 84 o (nI 1))
          rw [f_X11_goTick_L85]
          simp (disch := omega) only [md_n, lt_eq, bd_some, gN, gN2, le_T, le_F, lt_T, lt_F, eq_T, eq_F, cN, plus_n, mul_n, rem_n, div_n, sub_n, re_T, re_F, rl_wr, rd_wl, ne_m1, m1_ne, m1_lt, m1_le, m1_ge, m1_gt, m1_refl, ↓reduceIte, L0, L1, L2, L3, L4, L5, L6, L7, L8, L9, L10, L11, L15, L16, L17, L18, L20, L24, L26, L28, L31, L32, L35, L36, L48, L57, L59, L63, L64, L96, L97, L99, L100, L112, L122, L128, L200, L255, L256, L1000, L1024, L2000, L3000, L1000000, L1000000007, e7, e81, hn2, e84', gB1, gB0]
    · have hh : heardBy S A c o = false := by unfold heardBy; rw [decide_eq_false d1, Bool.false_and]
      refine ⟨(fb, b), ?_, by rw [eall, hh]; simp, h1, keep (by rw [hh, Bool.false_and])⟩
      show f_X11_goTick_L85 _ _ _ _ _ _ = f_X11_goTick_L85 _ _ _ _ _ _
      rw [f_X11_goTick_L85]
      simp (disch := omega) only [md_n, lt_eq, bd_some, gN, gN2, le_T, le_F, lt_T, lt_F, eq_T, eq_F, cN, plus_n, mul_n, rem_n, div_n, sub_n, re_T, re_F, rl_wr, rd_wl, ne_m1, m1_ne, m1_lt, m1_le, m1_ge, m1_gt, m1_refl, ↓reduceIte, L0, L1, L2, L3, L4, L5, L6, L7, L8, L9, L10, L11, L15, L16, L17, L18, L20, L24, L26, L28, L31, L32, L35, L36, L48, L57, L59, L63, L64, L96, L97, L99, L100, L112, L122, L128, L200, L255, L256, L1000, L1024, L2000, L3000, L1000000, L1000000007, e7, e81]
