/-! ===== a tick, a run ===== -/
theorem repC.tick {S b : St} {n T : Nat} {A : Ast} (h : repC S n T A b) (hn : n ≤ 24) : repC S n (T + 1) A (wr b 43 8 (nI (T + 1))) := by
  have hf : fr (fun c j => c = 43 ∧ j = 8) b (wr b 43 8 (nI (T + 1))) := (fr.refl _ _).wr (by omega)
  obtain ⟨g1, g2, g3, g4, g5⟩ := h
  refine ⟨by rw [hf _ _ (by omega)]; exact g1, rw_eq, by rw [← g3]; unfold nC; rw [hf _ _ (by omega)], fun c hc => ?_, fun p hp => ?_⟩
  · have e : ∀ k j, k ≠ 43 → rd (wr b 43 8 (nI (T + 1))) k j = rd b k j := fun k j hk => hf _ _ (by omega)
    obtain ⟨k1, k2, k3, k4, k5, k6⟩ := g4 c hc
    refine ⟨by rw [e _ _ (by omega)]; exact k1, by rw [e _ _ (by omega)]; exact k2, by rw [e _ _ (by omega)]; exact k3, by rw [e _ _ (by omega)]; exact k4, fun z => by rw [e _ _ (by omega)]; exact k5 z, fun z => ?_⟩
    obtain ⟨m1, m2, w, m3, m4, m5⟩ := k6 z
    exact ⟨by rw [e _ _ (by omega)]; exact m1, fun i hi => by rw [e _ _ (by omega)]; exact m2 i hi, w, m3, by rw [e _ _ (by omega)]; exact m4, m5⟩
  · rw [hf _ _ (by omega)]; exact g5 p hp
theorem repM.tick {b : St} {n T : Nat} {A : Ast} (h : repM n T A b) : repM n (T + 1) A (wr b 54 31 (nI (T + 1))) := by
  have hf : fr (fun c j => c = 54 ∧ j = 31) b (wr b 54 31 (nI (T + 1))) := (fr.refl _ _).wr (by omega)
  obtain ⟨g1, g2, g4⟩ := h
  refine ⟨by rw [hf _ _ (by omega)]; exact g1, rw_eq, fun c hc => ?_⟩
  obtain ⟨k1, k2, k3, k4, k5⟩ := g4 c hc
  refine ⟨by rw [hf _ _ (by omega)]; exact k1, by rw [hf _ _ (by omega)]; exact k2, by rw [hf _ _ (by omega)]; exact k3, by rw [hf _ _ (by omega)]; exact k4, fun z => ?_⟩
  obtain ⟨m1, m2⟩ := k5 z
  exact ⟨by rw [hf _ _ (by omega)]; exact m1, fun i hi => by rw [hf _ _ (by omega)]; exact m2 i hi⟩
theorem dngA_wf {S : St} {n T : Nat} {A : Ast} (hS : Still S n T) (hw : wf S n A) : ∀ i, i ≤ n → wf S n (dngA S n T i A) := by
  intro i
  induction i with
  | zero => intro _; exact hw
  | succ i ih => intro hi; exact dngS_wf hS (ih (by omega)) (by omega)
theorem othA_wf {S : St} {n T : Nat} {A : Ast} (hS : Still S n T) (hw : wf S n A) : ∀ i, i ≤ n → wf S n (othA S n T i A) := by
  intro i
  induction i with
  | zero => intro _; exact hw
  | succ i ih => intro hi; exact othS_wf hS (ih (by omega)) (by omega)
theorem tickA_wf {S : St} {n T : Nat} {A : Ast} (hS : Still S n T) (hw : wf S n A) : wf S n (tickA S n T A) :=
  sayA_wf (othA_wf hS (dngA_wf hS (stlA_wf hw) n (Nat.le_refl _)) n (Nat.le_refl _))
theorem tickC_ok {S a : St} {n T : Nat} {A : Ast} (hS : Still S n T) (hf : fr XcC S a) (hw : wf S n A) (hR : repC S n T A a) : ∃ a', f_X7_tick a = some ((), a') ∧ repC S n (T + 1) (tickA S n T A) a' ∧ fr XcC S a' := by
  have h24 := hS.1
  have hT := hS.2.1
  unfold f_X7_tick
  obtain ⟨a1, o1, o2, o3⟩ := growStale_ok hS hf hw hR
  rw [o1, bd_some]
  have hw1 := stlA_wf (T := T) hw
  obtain ⟨a2, p1, p2, p3, p4⟩ := dngC_ok hS o3 hw1 o2 (fun (S36 : St) =>
      bd_ (f_X7_whereDangerWaits  S36) fun r37 S38 =>
      f_X7_tick_L73
        (fun  (S56 : St) =>
          bd_ (f_X7_saySounds  S56) fun r57 S58 =>
          lt_ (wr S58 43 8 ((rd S58 43 8) + (1 : Int32))) fun S59 =>
          some ((), S59))
        r37 FU (0 : Int32) S38)
  obtain ⟨M, q1, q2, q3⟩ := where_ok hS p3 p4 p2
  obtain ⟨a3, r1, r2, r3, r4⟩ := othC_ok hS p3 p4 p2 q2 q3 (fun  (S56 : St) =>
          bd_ (f_X7_saySounds  S56) fun r57 S58 =>
          lt_ (wr S58 43 8 ((rd S58 43 8) + (1 : Int32))) fun S59 =>
          some ((), S59))
  obtain ⟨a4, s1, s2, s3⟩ := saySounds_ok hS r3 r4 r2
  refine ⟨wr a4 43 8 (nI (T + 1)), ?_, s2.tick h24, s3.wr (by unfold XcC; omega)⟩
  refine p1.trans ?_
  rw [q1, bd_some]
  refine r1.trans ?_
  rw [s1, bd_some, lt_eq, s2.2.1, show nI T + (1 : Int32) = nI (T + 1) from plus_n T 1]
theorem tickM_ok {S a : St} {n T : Nat} {A : Ast} (hS : Still S n T) (hf : fr XcM S a) (hw : wf S n A) (hR : repM n T A a) : ∃ a', f_X11_goTick a = some ((), a') ∧ repM n (T + 1) (tickA S n T A) a' ∧ fr XcM S a' := by
  unfold f_X11_goTick
  obtain ⟨a1, o1, o2, o3⟩ := staleM_ok hS hf hw hR (fun  (S35 : St) =>
      f_X11_goTick_L56
        (fun  (S70 : St) =>
          f_X11_goTick_L166
            (fun  (S101 : St) =>
              f_X11_goTick_L272
                (fun  (S109 : St) =>
                  lt_ (wr S109 54 31 ((rd S109 54 31) + (1 : Int32))) fun S110 =>
                  some ((), S110))
                 FU (0 : Int32) S101)
             FU (0 : Int32) S70)
         FU (0 : Int32) S35)
  have hw1 := stlA_wf (T := T) hw
  obtain ⟨a2, p1, p2, p3⟩ := dngM_ok hS o3 hw1 o2 (fun  (S70 : St) =>
          f_X11_goTick_L166
            (fun  (S101 : St) =>
              f_X11_goTick_L272
                (fun  (S109 : St) =>
                  lt_ (wr S109 54 31 ((rd S109 54 31) + (1 : Int32))) fun S110 =>
                  some ((), S110))
                 FU (0 : Int32) S101)
             FU (0 : Int32) S70)
  have hw2 := dngA_wf hS hw1 n (Nat.le_refl _)
  obtain ⟨a3, r1, r2, r3⟩ := othM_ok hS p3 hw2 p2 (fun  (S101 : St) =>
              f_X11_goTick_L272
                (fun  (S109 : St) =>
                  lt_ (wr S109 54 31 ((rd S109 54 31) + (1 : Int32))) fun S110 =>
                  some ((), S110))
                 FU (0 : Int32) S101)
  have hw3 := othA_wf hS hw2 n (Nat.le_refl _)
  obtain ⟨a4, s1, s2, s3⟩ := sayM_ok hS r3 hw3 r2 (fun  (S109 : St) =>
                  lt_ (wr S109 54 31 ((rd S109 54 31) + (1 : Int32))) fun S110 =>
                  some ((), S110))
  refine ⟨wr a4 54 31 (nI (T + 1)), ?_, s2.tick, s3.wr (by unfold XcM; omega)⟩
  refine (((o1.trans p1).trans r1).trans s1).trans ?_
  rw [lt_eq, s2.2.1, show nI T + (1 : Int32) = nI (T + 1) from plus_n T 1]
noncomputable def tickN (S : St) (n T : Nat) : Nat → Ast → Ast
  | 0, a => a
  | i + 1, a => tickA S n (T + i) (tickN S n T i a)
theorem Still.up {S : St} {n T T' : Nat} (h : Still S n T) (hT : T' ≤ 2000) : Still S n T' := ⟨h.1, hT, h.2.2⟩
theorem runC_ok {S : St} {n T k : Nat} {A : Ast} (hS : Still S n T) (hw : wf S n A) (hR : repC S n T A S) (hk : T + k ≤ 2000) (K : St → Option (Int32 × St)) : ∃ a', f_X10_run_L30 K (nI k) FU (nI 0) S = K a' ∧ repC S n (T + k) (tickN S n T k A) a' ∧ fr XcC S a' ∧ wf S n (tickN S n T k A) := by
  refine loopC (fun f (b : St) i => f_X10_run_L30 K (nI k) f (nI i) b) (fun x => ∃ a', x = K a' ∧ repC S n (T + k) (tickN S n T k A) a' ∧ fr XcC S a' ∧ wf S n (tickN S n T k A)) (fun i b => repC S n (T + i) (tickN S n T i A) b ∧ fr XcC S b ∧ wf S n (tickN S n T i A)) k ?_ ?_ k 0 FU S (by omega) (by unfold FU; omega) ⟨hR, fr.refl _ _, hw⟩
  · intro f b ⟨h1, h2, h3⟩
    refine ⟨b, ?_, h1, h2, h3⟩
    rw [f_X10_run_L30]
    simp (disch := omega) only [md_n, lt_eq, bd_some, gN, gN2, le_T, le_F, lt_T, lt_F, eq_T, eq_F, cN, plus_n, mul_n, rem_n, div_n, sub_n, re_T, re_F, rl_wr, rd_wl, ne_m1, m1_ne, m1_lt, m1_le, m1_ge, m1_gt, m1_refl, ↓reduceIte, L0, L1, L2, L3, L4, L5, L6, L7, L8, L9, L10, L11, L15, L16, L17, L18, L20, L24, L26, L28, L31, L32, L35, L36, L48, L57, L59, L63, L64, L96, L97, L99, L100, L112, L122, L128, L200, L255, L256, L1000, L1024, L2000, L3000, L1000000, L1000000007]
  · intro f b i hi ⟨h1, h2, h3⟩
    right
    have hS' := hS.up (show T + i ≤ 2000 by omega)
    obtain ⟨b2, o1, o2, o3⟩ := tickC_ok hS' h2 h3 h1
    refine ⟨b2, ?_, o2, o3, tickA_wf hS' h3⟩
    rw [f_X10_run_L30]
    simp (disch := omega) only [md_n, lt_eq, bd_some, gN, gN2, le_T, le_F, lt_T, lt_F, eq_T, eq_F, cN, plus_n, mul_n, rem_n, div_n, sub_n, re_T, re_F, rl_wr, rd_wl, ne_m1, m1_ne, m1_lt, m1_le, m1_ge, m1_gt, m1_refl, ↓reduceIte, L0, L1, L2, L3, L4, L5, L6, L7, L8, L9, L10, L11, L15, L16, L17, L18, L20, L24, L26, L28, L31, L32, L35, L36, L48, L57, L59, L63, L64, L96, L97, L99, L100, L112, L122, L128, L200, L255, L256, L1000, L1024, L2000, L3000, L1000000, L1000000007, o1]
theorem runM_ok {S a : St} {n T k : Nat} {A : Ast} (hS : Still S n T) (hw : wf S n A) (hf : fr XcM S a) (hR : repM n T A a) (hk : T + k ≤ 2000) (K : St → Option (Int32 × St)) : ∃ a', f_X11_run_L27 K (nI k) FU (nI 0) a = K a' ∧ repM n (T + k) (tickN S n T k A) a' ∧ fr XcM S a' := by
  refine loopC (fun f (b : St) i => f_X11_run_L27 K (nI k) f (nI i) b) (fun x => ∃ a', x = K a' ∧ repM n (T + k) (tickN S n T k A) a' ∧ fr XcM S a') (fun i b => repM n (T + i) (tickN S n T i A) b ∧ fr XcM S b ∧ wf S n (tickN S n T i A)) k ?_ ?_ k 0 FU a (by omega) (by unfold FU; omega) ⟨hR, hf, hw⟩
  · intro f b ⟨h1, h2, h3⟩
    refine ⟨b, ?_, h1, h2⟩
    rw [f_X11_run_L27]
    simp (disch := omega) only [md_n, lt_eq, bd_some, gN, gN2, le_T, le_F, lt_T, lt_F, eq_T, eq_F, cN, plus_n, mul_n, rem_n, div_n, sub_n, re_T, re_F, rl_wr, rd_wl, ne_m1, m1_ne, m1_lt, m1_le, m1_ge, m1_gt, m1_refl, ↓reduceIte, L0, L1, L2, L3, L4, L5, L6, L7, L8, L9, L10, L11, L15, L16, L17, L18, L20, L24, L26, L28, L31, L32, L35, L36, L48, L57, L59, L63, L64, L96, L97, L99, L100, L112, L122, L128, L200, L255, L256, L1000, L1024, L2000, L3000, L1000000, L1000000007]
  · intro f b i hi ⟨h1, h2, h3⟩
    right
    have hS' := hS.up (show T + i ≤ 2000 by omega)
    obtain ⟨b2, o1, o2, o3⟩ := tickM_ok hS' h2 h3 h1
    refine ⟨b2, ?_, o2, o3, tickA_wf hS' h3⟩
    rw [f_X11_run_L27]
    simp (disch := omega) only [md_n, lt_eq, bd_some, gN, gN2, le_T, le_F, lt_T, lt_F, eq_T, eq_F, cN, plus_n, mul_n, rem_n, div_n, sub_n, re_T, re_F, rl_wr, rd_wl, ne_m1, m1_ne, m1_lt, m1_le, m1_ge, m1_gt, m1_refl, ↓reduceIte, L0, L1, L2, L3, L4, L5, L6, L7, L8, L9, L10, L11, L15, L16, L17, L18, L20, L24, L26, L28, L31, L32, L35, L36, L48, L57, L59, L63, L64, L96, L97, L99, L100, L112, L122, L128, L200, L255, L256, L1000, L1024, L2000, L3000, L1000000, L1000000007, o1]
