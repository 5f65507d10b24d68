theorem beg_st {S : St} {T c o : Nat} {A : Ast} (h : o ≠ c) : (beg S T c A).st o = A.st o := by
  unfold beg
  cases mu S c with
  | none => exact fup_ne _ _ h
  | some E => exact fup_ne _ _ h
theorem oth_st {S : St} {n T o : Nat} {A : Ast} (h : da S o = true) : ∀ i, (othA S n T i A).st o = A.st o := by
  intro i
  induction i with
  | zero => rfl
  | succ i ih =>
    show (othS S n T i (othA S n T i A)).st o = _
    unfold othS
    split
    · next hc =>
      rw [Bool.and_eq_true, Bool.and_eq_true, Bool.and_eq_true] at hc
      have : o ≠ i := fun z => by rw [← z, h] at hc; exact absurd hc.1.1.1 (by decide)
      rw [beg_st this]; exact ih
    · exact ih
theorem calm_oth {S : St} {n T c i : Nat} {A : Ast} : calm S n T (othA S n T i A) c = calm S n T A c := by
  unfold calm
  congr 1
  funext o
  cases hd : da S o
  · rfl
  · unfold ready; rw [oth_st hd]
theorem calm_iff {S : St} {n T c M : Nat} {A : Ast} (hS : Still S n T) (hc : c < n) (hM : ∀ p, p < 6 → tb M p = dmask S T A n p) : (nv S 46 (pa S c) &&& M = 0) ↔ calm S n T A c = true := by
  obtain ⟨⟨p1, -⟩, -⟩ := hS.2.2.1 c hc
  obtain ⟨-, e2, -⟩ := hS.2.2.2.1 _ p1
  rw [and_z e2]
  unfold calm
  rw [List.all_eq_true]
  constructor
  · intro h o ho
    have ho' := List.mem_range.mp ho
    have hp := (hS.2.2.1 o ho').1.1
    have := h (pa S o) hp
    rw [hM _ hp] at this
    cases hd : (da S o && ready S T A o)
    · rw [Bool.false_and]; rfl
    · rw [Bool.true_and]
      have hm : dmask S T A n (pa S o) = true := by
        unfold dmask
        rw [List.any_eq_true]
        exact ⟨o, ho, by rw [hd, decide_eq_true rfl]; rfl⟩
      rw [hm, Bool.and_true] at this
      unfold nr
      rw [this]; rfl
  · intro h p hp
    rw [hM p hp]
    cases hm : dmask S T A n p
    · rw [Bool.and_false]
    · unfold dmask at hm
      rw [List.any_eq_true] at hm
      obtain ⟨o, ho, hx⟩ := hm
      rw [Bool.and_eq_true] at hx
      have := h o ho
      rw [hx.1, Bool.true_and, of_decide_eq_true hx.2] at this
      unfold nr at this
      rw [Bool.and_true]
      simpa using this
theorem othC_ok {S a : St} {n T M : Nat} {A : Ast} (hS : Still S n T) (hf : fr XcC S a) (hw : wf S n A) (hR : repC S n T A a) (hM64 : M < 64) (hM : ∀ p, p < 6 → tb M p = dmask S T A n p) (K : St → Option (Unit × St)) : ∃ a', f_X7_tick_L73 K (nI M) FU (nI 0) a = K a' ∧ repC S n T (othA S n T n A) a' ∧ fr XcC S a' ∧ wf S n (othA S n T n A) := by
  have h24 := hS.1
  refine loopC (fun f (b : St) i => f_X7_tick_L73 K (nI M) f (nI i) b) (fun x => ∃ a', x = K a' ∧ repC S n T (othA S n T n A) a' ∧ fr XcC S a' ∧ wf S n (othA S n T n A)) (fun i b => repC S n T (othA S n T i A) b ∧ fr XcC S b ∧ wf S n (othA S n T i A)) n ?_ ?_ n 0 FU a (by omega) (by unfold FU; omega) ⟨hR, hf, hw⟩
  · intro f b ⟨h1, h2, h3⟩
    refine ⟨b, ?_, h1, h2, h3⟩
    have e7 := h1.1
    rw [f_X7_tick_L73]
    simp (disch := omega) only [md_n, lt_eq, bd_some, gN, gN2, le_T, le_F, lt_T, lt_F, eq_T, eq_F, cN, plus_n, mul_n, rem_n, div_n, sub_n, re_T, re_F, rl_wr, rd_wl, ne_m1, m1_ne, m1_lt, m1_le, m1_ge, m1_gt, m1_refl, ↓reduceIte, L0, L1, L2, L3, L4, L5, L6, L7, L8, L9, L10, L11, L15, L16, L17, L18, L20, L24, L26, L28, L31, L32, L35, L36, L48, L57, L59, L63, L64, L96, L97, L99, L100, L112, L122, L128, L200, L255, L256, L1000, L1024, L2000, L3000, L1000000, L1000000007, e7]
  · intro f b c hc ⟨h1, h2, h3⟩
    right
    show ∃ a', _ ∧ repC S n T (othS S n T c (othA S n T c A)) a' ∧ fr XcC S a' ∧ wf S n (othS S n T c (othA S n T c A))
    have hcal : (nv S 46 (pa S c) &&& M = 0) ↔ calm S n T (othA S n T c A) c = true := by rw [calm_oth]; exact calm_iff hS hc hM
    generalize othA S n T c A = B at *
    have hwf := othS_wf hS h3 hc
    have e7 := h1.1
    have e8 := h1.2.1
    have e0 := h1.2.2.1
    have hst := (h3.1 c hc).1
    obtain ⟨⟨p1, p2, -⟩, -, -, ⟨q1, -⟩, -⟩ := hS.2.2.1 c hc
    obtain ⟨y1, y2, -⟩ := hS.2.2.2.1 _ p1
    have e3 : rd b (300 + 2 * c) 3 = bI (da S c) := by rw [h2 _ _ (by unfold XcC Xsc Xw; omega)]; exact q1
    have ep : rd b (300 + 2 * c) 0 = nI (pa S c) := by rw [h2 _ _ (by unfold XcC Xsc Xw; omega)]; exact p2
    have e46 : rd b 46 (pa S c) = nI (nv S 46 (pa S c)) := by rw [h2 _ _ (by unfold XcC Xsc Xw; omega)]; exact y1
    have hand : nI (nv S 46 (pa S c)) &&& nI M = nI (nv S 46 (pa S c) &&& M) := and_n (by omega) (by omega)
    have hle : nv S 46 (pa S c) &&& M ≤ nv S 46 (pa S c) := Nat.and_le_left
    have hrd := isReady_ok hS h2 h1 hc hst
    cases hd : da S c
    · rw [hd] at e3
      have e3' : rd b (300 + 2 * c) 3 = nI 0 := e3
      cases hr : ready S T B c
      · rw [hr] at hrd
        have hrd' : f_X0_isReadyAt c (nI T) b = some (nI 0, b) := hrd
        have hB : othS S n T c B = B := by unfold othS; rw [hd, hr]; rfl
        rw [hB]
        refine ⟨b, ?_, h1, h2, h3⟩
        rw [f_X7_tick_L73]
        simp (disch := omega) only [md_n, lt_eq, bd_some, gN, gN2, le_T, le_F, lt_T, lt_F, eq_T, eq_F, cN, plus_n, mul_n, rem_n, div_n, sub_n, re_T, re_F, rl_wr, rd_wl, ne_m1, m1_ne, m1_lt, m1_le, m1_ge, m1_gt, m1_refl, ↓reduceIte, L0, L1, L2, L3, L4, L5, L6, L7, L8, L9, L10, L11, L15, L16, L17, L18, L20, L24, L26, L28, L31, L32, L35, L36, L48, L57, L59, L63, L64, L96, L97, L99, L100, L112, L122, L128, L200, L255, L256, L1000, L1024, L2000, L3000, L1000000, L1000000007, e7, e8, e0, e3', hrd']
      · rw [hr] at hrd
        have hrd' : f_X0_isReadyAt c (nI T) b = some (nI 1, b) := hrd
        cases hcm : calm S n T B c
        · have hB : othS S n T c B = B := by unfold othS; rw [hd, hr, hcm]; rfl
          rw [hB]
          have hnz : nv S 46 (pa S c) &&& M ≠ 0 := fun z => by rw [hcal.mp z] at hcm; cases hcm
          refine ⟨b, ?_, h1, h2, h3⟩
          rw [f_X7_tick_L73]
          simp (disch := omega) only [md_n, lt_eq, bd_some, gN, gN2, le_T, le_F, lt_T, lt_F, eq_T, eq_F, cN, plus_n, mul_n, rem_n, div_n, sub_n, re_T, re_F, rl_wr, rd_wl, ne_m1, m1_ne, m1_lt, m1_le, m1_ge, m1_gt, m1_refl, ↓reduceIte, L0, L1, L2, L3, L4, L5, L6, L7, L8, L9, L10, L11, L15, L16, L17, L18, L20, L24, L26, L28, L31, L32, L35, L36, L48, L57, L59, L63, L64, L96, L97, L99, L100, L112, L122, L128, L200, L255, L256, L1000, L1024, L2000, L3000, L1000000, L1000000007, e7, e8, e0, e3', hrd', ep, e46, hand]
        · have hz : nv S 46 (pa S c) &&& M = 0 := hcal.mpr hcm
          obtain ⟨b3, u1, u2, u3⟩ := beginC_ok (A := B) hS h2 h3 h1 hc (of_decide_eq_true hr).1
          have hB : othS S n T c B = if free S n B c = true then beg S T c B else B := by unfold othS; rw [hd, hr, hcm]; rfl
          rw [← hB] at u2
          refine ⟨b3, ?_, u2, u3, hwf⟩
          rw [f_X7_tick_L73]
          simp (disch := omega) only [md_n, lt_eq, bd_some, gN, gN2, le_T, le_F, lt_T, lt_F, eq_T, eq_F, cN, plus_n, mul_n, rem_n, div_n, sub_n, re_T, re_F, rl_wr, rd_wl, ne_m1, m1_ne, m1_lt, m1_le, m1_ge, m1_gt, m1_refl, ↓reduceIte, L0, L1, L2, L3, L4, L5, L6, L7, L8, L9, L10, L11, L15, L16, L17, L18, L20, L24, L26, L28, L31, L32, L35, L36, L48, L57, L59, L63, L64, L96, L97, L99, L100, L112, L122, L128, L200, L255, L256, L1000, L1024, L2000, L3000, L1000000, L1000000007, e7, e8, e0, e3', hrd', ep, e46, hand, u1]
    · rw [hd] at e3
      have e3' : rd b (300 + 2 * c) 3 = nI 1 := e3
      have hB : othS S n T c B = B := by unfold othS; rw [hd]; rfl
      rw [hB]
      refine ⟨b, ?_, h1, h2, h3⟩
      rw [f_X7_tick_L73]
      simp (disch := omega) only [md_n, lt_eq, bd_some, gN, gN2, le_T, le_F, lt_T, lt_F, eq_T, eq_F, cN, plus_n, mul_n, rem_n, div_n, sub_n, re_T, re_F, rl_wr, rd_wl, ne_m1, m1_ne, m1_lt, m1_le, m1_ge, m1_gt, m1_refl, ↓reduceIte, L0, L1, L2, L3, L4, L5, L6, L7, L8, L9, L10, L11, L15, L16, L17, L18, L20, L24, L26, L28, L31, L32, L35, L36, L48, L57, L59, L63, L64, L96, L97, L99, L100, L112, L122, L128, L200, L255, L256, L1000, L1024, L2000, L3000, L1000000, L1000000007, e7, e0, e3']
def may (S : St) (T : Nat) (A : Ast) (c o : Nat) : Bool := !(nr S (pa S c) (pa S o)) || (!(decide (A.st o = 1)) && !(da S o && ready S T A o))
theorem may_all {S : St} {n T c : Nat} {A : Ast} : (List.range n).all (may S T A c) = (calm S n T A c && free S n A c) := by
  have : ∀ o, may S T A c o = (!(da S o && ready S T A o && nr S (pa S c) (pa S o)) && !(heardBy S A c o)) := fun o => by
    unfold may heardBy
    cases nr S (pa S c) (pa S o) <;> cases decide (A.st o = 1) <;> cases da S o <;> cases ready S T A o <;> rfl
  unfold calm free
  induction List.range n with
  | nil => rfl
  | cons o L ih =>
    simp only [List.all_cons]
    rw [ih, this]
    cases (!(da S o && ready S T A o && nr S (pa S c) (pa S o))) <;> cases (!(heardBy S A c o)) <;> simp
theorem mayM_ok {S a : St} {n T : Nat} {A : Ast} {c : Nat} (hS : Still S n T) (hf : fr XcM S a) (hw : wf S n A) (hR : repM n T A a) (hc : c < n) (K : Int32 → St → Option (Unit × St)) : f_X11_goTick_L195 K (nI c) FU (nI 1) (nI 0) a = K (bI (calm S n T A c && free S n A c)) a := by
  have h24 := hS.1
  rw [← may_all]
  have e7 := hR.1
  refine loopC (fun f (x : Bool) i => f_X11_goTick_L195 K (nI c) f (bI x) (nI i) a) (fun y => y = K (bI ((List.range n).all (may S T A c))) a) (fun i x => x = (List.range i).all (may S T A c)) n ?_ ?_ n 0 FU true (by omega) (by unfold FU; omega) rfl
  · rintro f x rfl
    show f_X11_goTick_L195 _ _ _ _ _ _ = _
    rw [f_X11_goTick_L195]
    simp (disch := omega) only [md_n, lt_eq, bd_some, gN, gN2, le_T, le_F, lt_T, lt_F, eq_T, eq_F, cN, plus_n, mul_n, rem_n, div_n, sub_n, re_T, re_F, rl_wr, rd_wl, ne_m1, m1_ne, m1_lt, m1_le, m1_ge, m1_gt, m1_refl, ↓reduceIte, L0, L1, L2, L3, L4, L5, L6, L7, L8, L9, L10, L11, L15, L16, L17, L18, L20, L24, L26, L28, L31, L32, L35, L36, L48, L57, L59, L63, L64, L96, L97, L99, L100, L112, L122, L128, L200, L255, L256, L1000, L1024, L2000, L3000, L1000000, L1000000007, e7]
  · rintro f x o ho hx
    right
    have eall : (List.range (o + 1)).all (may S T A c) = (x && may S T A c o) := by rw [List.range_succ, List.all_append, hx]; simp
    refine ⟨x && may S T A c o, ?_, eall.symm⟩
    have hnear := near_ok (S := S) (a := a) hS (fun j => hf _ _ (by unfold XcM Xsm Xm; omega)) (fun j => hf _ _ (by unfold XcM Xsm Xm; omega)) hc ho
    have e81 := (hR.2.2 o ho).1
    have hst := (hw.1 o ho).1
    have e80 : rd a 80 o = bI (da S o) := by rw [hf _ _ (by unfold XcM Xsm Xm; omega)]; exact (hS.2.2.1 o ho).2.2.2.1.2
    have hrd := isWaiting_ok hS hf hR ho hst
    cases x
    · show f_X11_goTick_L195 _ _ _ (nI 0) _ _ = f_X11_goTick_L195 _ _ _ (nI 0) _ _
      rw [f_X11_goTick_L195]
      simp (disch := omega) only [md_n, lt_eq, bd_some, gN, gN2, le_T, le_F, lt_T, lt_F, eq_T, eq_F, cN, plus_n, mul_n, rem_n, div_n, sub_n, re_T, re_F, rl_wr, rd_wl, ne_m1, m1_ne, m1_lt, m1_le, m1_ge, m1_gt, m1_refl, ↓reduceIte, L0, L1, L2, L3, L4, L5, L6, L7, L8, L9, L10, L11, L15, L16, L17, L18, L20, L24, L26, L28, L31, L32, L35, L36, L48, L57, L59, L63, L64, L96, L97, L99, L100, L112, L122, L128, L200, L255, L256, L1000, L1024, L2000, L3000, L1000000, L1000000007, e7]
    · rw [Bool.true_and]
      unfold may
      cases hn : nr S (pa S c) (pa S o)
      · rw [hn] at hnear
        have hn2 : f_X11_isNear (nI c) (nI o) a = some (nI 0, a) := hnear
        show f_X11_goTick_L195 _ _ _ (nI 1) _ _ = f_X11_goTick_L195 _ _ _ (nI 1) _ _
        rw [f_X11_goTick_L195]
        simp (disch := omega) only [md_n, lt_eq, bd_some, gN, gN2, le_T, le_F, lt_T, lt_F, eq_T, eq_F, cN, plus_n, mul_n, rem_n, div_n, sub_n, re_T, re_F, rl_wr, rd_wl, ne_m1, m1_ne, m1_lt, m1_le, m1_ge, m1_gt, m1_refl, ↓reduceIte, L0, L1, L2, L3, L4, L5, L6, L7, L8, L9, L10, L11, L15, L16, L17, L18, L20, L24, L26, L28, L31, L32, L35, L36, L48, L57, L59, L63, L64, L96, L97, L99, L100, L112, L122, L128, L200, L255, L256, L1000, L1024, L2000, L3000, L1000000, L1000000007, e7, hn2]
      · rw [hn] at hnear
        have hn2 : f_X11_isNear (nI c) (nI o) a = some (nI 1, a) := hnear
        by_cases d : A.st o = 1
        · rw [decide_eq_true d]
          show f_X11_goTick_L195 _ _ _ (nI 1) _ _ = f_X11_goTick_L195 _ _ _ (nI 0) _ _
          rw [f_X11_goTick_L195]
          simp (disch := omega) only [md_n, lt_eq, bd_some, gN, gN2, le_T, le_F, lt_T, lt_F, eq_T, eq_F, cN, plus_n, mul_n, rem_n, div_n, sub_n, re_T, re_F, rl_wr, rd_wl, ne_m1, m1_ne, m1_lt, m1_le, m1_ge, m1_gt, m1_refl, ↓reduceIte, L0, L1, L2, L3, L4, L5, L6, L7, L8, L9, L10, L11, L15, L16, L17, L18, L20, L24, L26, L28, L31, L32, L35, L36, L48, L57, L59, L63, L64, L96, L97, L99, L100, L112, L122, L128, L200, L255, L256, L1000, L1024, L2000, L3000, L1000000, L1000000007, e7, hn2, e81]
        · rw [decide_eq_false d]
          cases hd : da S o
          · rw [hd] at e80
            have e80' : rd a 80 o = nI 0 := e80
            show f_X11_goTick_L195 _ _ _ (nI 1) _ _ = f_X11_goTick_L195 _ _ _ (nI 1) _ _
            rw [f_X11_goTick_L195]
            simp (disch := omega) only [md_n, lt_eq, bd_some, gN, gN2, le_T, le_F, lt_T, lt_F, eq_T, eq_F, cN, plus_n, mul_n, rem_n, div_n, sub_n, re_T, re_F, rl_wr, rd_wl, ne_m1, m1_ne, m1_lt, m1_le, m1_ge, m1_gt, m1_refl, ↓reduceIte, L0, L1, L2, L3, L4, L5, L6, L7, L8, L9, L10, L11, L15, L16, L17, L18, L20, L24, L26, L28, L31, L32, L35, L36, L48, L57, L59, L63, L64, L96, L97, L99, L100, L112, L122, L128, L200, L255, L256, L1000, L1024, L2000, L3000, L1000000, L1000000007, e7, hn2, e81, e80']
          · rw [hd] at e80
            have e80' : rd a 80 o = nI 1 := e80
            cases hr : ready S T A o
            · rw [hr] at hrd
              have hrd' : f_X11_isWaiting (nI o) a = some (nI 0, a) := hrd
              show f_X11_goTick_L195 _ _ _ (nI 1) _ _ = f_X11_goTick_L195 _ _ _ (nI 1) _ _
              rw [f_X11_goTick_L195]
              simp (disch := omega) only [md_n, lt_eq, bd_some, gN, gN2, le_T, le_F, lt_T, lt_F, eq_T, eq_F, cN, plus_n, mul_n, rem_n, div_n, sub_n, re_T, re_F, rl_wr, rd_wl, ne_m1, m1_ne, m1_lt, m1_le, m1_ge, m1_gt, m1_refl, ↓reduceIte, L0, L1, L2, L3, L4, L5, L6, L7, L8, L9, L10, L11, L15, L16, L17, L18, L20, L24, L26, L28, L31, L32, L35, L36, L48, L57, L59, L63, L64, L96, L97, L99, L100, L112, L122, L128, L200, L255, L256, L1000, L1024, L2000, L3000, L1000000, L1000000007, e7, hn2, e81, e80', hrd']
            · rw [hr] at hrd
              have hrd' : f_X11_isWaiting (nI o) a = some (nI 1, a) := hrd
              show f_X11_goTick_L195 _ _ _ (nI 1) _ _ = f_X11_goTick_L195 _ _ _ (nI 0) _ _
              rw [f_X11_goTick_L195]
              simp (disch := omega) only [md_n, lt_eq, bd_some, gN, gN2, le_T, le_F, lt_T, lt_F, eq_T, eq_F, cN, plus_n, mul_n, rem_n, div_n, sub_n, re_T, re_F, rl_wr, rd_wl, ne_m1, m1_ne, m1_lt, m1_le, m1_ge, m1_gt, m1_refl, ↓reduceIte, L0, L1, L2, L3, L4, L5, L6, L7, L8, L9, L10, L11, L15, L16, L17, L18, L20, L24, L26, L28, L31, L32, L35, L36, L48, L57, L59, L63, L64, L96, L97, L99, L100, L112, L122, L128, L200, L255, L256, L1000, L1024, L2000, L3000, L1000000, L1000000007, e7, hn2, e81, e80', hrd']
theorem othM_ok {S a : St} {n T : Nat} {A : Ast} (hS : Still S n T) (hf : fr XcM S a) (hw : wf S n A) (hR : repM n T A a) (K : St → Option (Unit × St)) : ∃ a', f_X11_goTick_L166 K FU (nI 0) a = K a' ∧ repM n T (othA S n T n A) a' ∧ fr XcM S a' := by
  have h24 := hS.1
  refine loopC (fun f (b : St) i => f_X11_goTick_L166 K f (nI i) b) (fun x => ∃ a', x = K a' ∧ repM n T (othA S n T n A) a' ∧ fr XcM S a') (fun i b => repM n T (othA S n T i A) b ∧ fr XcM S b ∧ wf S n (othA S n T i A)) n ?_ ?_ n 0 FU a (by omega) (by unfold FU; omega) ⟨hR, hf, hw⟩
  · intro f b ⟨h1, h2, h3⟩
    refine ⟨b, ?_, h1, h2⟩
    have e7 := h1.1
    rw [f_X11_goTick_L166]
    simp (disch := omega) only [md_n, lt_eq, bd_some, gN, gN2, le_T, le_F, lt_T, lt_F, eq_T, eq_F, cN, plus_n, mul_n, rem_n, div_n, sub_n, re_T, re_F, rl_wr, rd_wl, ne_m1, m1_ne, m1_lt, m1_le, m1_ge, m1_gt, m1_refl, ↓reduceIte, L0, L1, L2, L3, L4, L5, L6, L7, L8, L9, L10, L11, L15, L16, L17, L18, L20, L24, L26, L28, L31, L32, L35, L36, L48, L57, L59, L63, L64, L96, L97, L99, L100, L112, L122, L128, L200, L255, L256, L1000, L1024, L2000, L3000, L1000000, L1000000007, e7]
  · intro f b c hc ⟨h1, h2, h3⟩
    right
    show ∃ a', _ ∧ repM n T (othS S n T c (othA S n T c A)) a' ∧ fr XcM S a' ∧ wf S n (othS S n T c (othA S n T c A))
    generalize othA S n T c A = B at *
    have hwf := othS_wf hS h3 hc
    have e7 := h1.1
    have hst := (h3.1 c hc).1
    obtain ⟨-, -, -, ⟨-, q1⟩, -⟩ := hS.2.2.1 c hc
    have e3 : rd b 80 c = bI (da S c) := by rw [h2 _ _ (by unfold XcM Xsm Xm; omega)]; exact q1
    have hrd := isWaiting_ok hS h2 h1 hc hst
    cases hd : da S c
    · rw [hd] at e3
      have e3' : rd b 80 c = nI 0 := e3
      cases hr : ready S T B c
      · rw [hr] at hrd
        have hrd' : f_X11_isWaiting (nI c) b = some (nI 0, b) := hrd
        have hB : othS S n T c B = B := by unfold othS; rw [hd, hr]; rfl
        rw [hB]
        refine ⟨b, ?_, h1, h2, h3⟩
        rw [f_X11_goTick_L166]
        simp (disch := omega) only [md_n, lt_eq, bd_some, gN, gN2, le_T, le_F, lt_T, lt_F, eq_T, eq_F, cN, plus_n, mul_n, rem_n, div_n, sub_n, re_T, re_F, rl_wr, rd_wl, ne_m1, m1_ne, m1_lt, m1_le, m1_ge, m1_gt, m1_refl, ↓reduceIte, L0, L1, L2, L3, L4, L5, L6, L7, L8, L9, L10, L11, L15, L16, L17, L18, L20, L24, L26, L28, L31, L32, L35, L36, L48, L57, L59, L63, L64, L96, L97, L99, L100, L112, L122, L128, L200, L255, L256, L1000, L1024, L2000, L3000, L1000000, L1000000007, e7, e3', hrd']
      · rw [hr] at hrd
        have hrd' : f_X11_isWaiting (nI c) b = some (nI 1, b) := hrd
        have o1 := mayM_ok hS h2 h3 h1 hc (fun (x96 : Int32) (S97 : St) =>
              if x96 = 0 then f_X11_goTick_L166 K f (nI (c + 1)) S97
              else
                bd_ (f_X11_start (nI c) S97) fun r99 S100 => f_X11_goTick_L166 K f (nI (c + 1)) S100)
        have hstep : f_X11_goTick_L166 K (f + 1) (nI c) b = (if bI (calm S n T B c && free S n B c) = 0 then f_X11_goTick_L166 K f (nI (c + 1)) b else bd_ (f_X11_start (nI c) b) fun r68 S69 => f_X11_goTick_L166 K f (nI (c + 1)) S69) := by
          have h10 : (nI 1 = (0 : Int32)) = False := eq_false (by decide)
          have h00 : (nI 0 = (0 : Int32)) = True := eq_true rfl
          rw [f_X11_goTick_L166]
          simp (disch := omega) only [md_n, lt_eq, bd_some, gN, gN2, le_T, le_F, lt_T, lt_F, eq_T, eq_F, cN, plus_n, mul_n, rem_n, div_n, sub_n, re_T, re_F, rl_wr, rd_wl, ne_m1, m1_ne, m1_lt, m1_le, m1_ge, m1_gt, m1_refl, ↓reduceIte, L0, L1, L2, L3, L4, L5, L6, L7, L8, L9, L10, L11, L15, L16, L17, L18, L20, L24, L26, L28, L31, L32, L35, L36, L48, L57, L59, L63, L64, L96, L97, L99, L100, L112, L122, L128, L200, L255, L256, L1000, L1024, L2000, L3000, L1000000, L1000000007, -L0, e7, e3', hrd', h10, h00]
          exact o1
        have hB : othS S n T c B = if (calm S n T B c && free S n B c) = true then beg S T c B else B := by unfold othS; rw [hd, hr]; rfl
        cases hfr : (calm S n T B c && free S n B c)
        · rw [hfr, if_neg (by decide)] at hB
          rw [hB]
          refine ⟨b, ?_, h1, h2, h3⟩
          rw [hstep, hfr]; exact if_pos (by decide)
        · rw [hfr, if_pos rfl] at hB
          rw [hB]
          rw [hB] at hwf
          obtain ⟨b3, u1, u2, u3⟩ := beginM_ok (A := B) hS h2 h3 h1 hc (of_decide_eq_true hr).1
          refine ⟨b3, ?_, u2, u3, hwf⟩
          rw [hstep, hfr, if_neg (by decide), u1, bd_some]
    · rw [hd] at e3
      have e3' : rd b 80 c = nI 1 := e3
      have hB : othS S n T c B = B := by unfold othS; rw [hd]; rfl
      rw [hB]
      refine ⟨b, ?_, h1, h2, h3⟩
      rw [f_X11_goTick_L166]
      simp (disch := omega) only [md_n, lt_eq, bd_some, gN, gN2, le_T, le_F, lt_T, lt_F, eq_T, eq_F, cN, plus_n, mul_n, rem_n, div_n, sub_n, re_T, re_F, rl_wr, rd_wl, ne_m1, m1_ne, m1_lt, m1_le, m1_ge, m1_gt, m1_refl, ↓reduceIte, L0, L1, L2, L3, L4, L5, L6, L7, L8, L9, L10, L11, L15, L16, L17, L18, L20, L24, L26, L28, L31, L32, L35, L36, L48, L57, L59, L63, L64, L96, L97, L99, L100, L112, L122, L128, L200, L255, L256, L1000, L1024, L2000, L3000, L1000000, L1000000007, e7, e3']
