/-! ===== danger; others ===== -/
theorem dngS_wf {S : St} {n T c : Nat} {A : Ast} (hS : Still S n T) (hw : wf S n A) (hc : c < n) : wf S n (dngS S n T c A) := by
  unfold dngS
  split
  · next h =>
    rw [Bool.and_eq_true] at h
    have h0 : A.st c = 0 := (of_decide_eq_true h.2).1
    split
    · next hf => exact beg_wf (A := hushA S n c A) hS hw hc h0 hf
    · exact hw
  · exact hw
theorem othS_wf {S : St} {n T c : Nat} {A : Ast} (hS : Still S n T) (hw : wf S n A) (hc : c < n) : wf S n (othS S n T c A) := by
  unfold othS
  split
  · next h =>
    rw [Bool.and_eq_true, Bool.and_eq_true, Bool.and_eq_true] at h
    exact beg_wf hS hw hc (of_decide_eq_true h.1.1.2).1 h.2
  · exact hw
theorem dngC_ok {S a : St} {n T : Nat} {A : Ast} (hS : Still S n T) (hf : fr XcC S a) (hw : wf S n A) (hR : repC S n T A a) (K : St → Option (Unit × St)) : ∃ a', f_X7_tick_L6 K FU (nI 0) a = K a' ∧ repC S n T (dngA S n T n A) a' ∧ fr XcC S a' ∧ wf S n (dngA S n T n A) := by
  have h24 := hS.1
  refine loopC (fun f (b : St) i => f_X7_tick_L6 K f (nI i) b) (fun x => ∃ a', x = K a' ∧ repC S n T (dngA S n T n A) a' ∧ fr XcC S a' ∧ wf S n (dngA S n T n A)) (fun i b => repC S n T (dngA S n T i A) b ∧ fr XcC S b ∧ wf S n (dngA S n T i A)) n ?_ ?_ n 0 FU a (by omega) (by unfold FU; omega) ⟨hR, hf, hw⟩
  · intro f b ⟨h1, h2, h3⟩
    refine ⟨b, ?_, h1, h2, h3⟩
    have e7 := h1.1
    rw [f_X7_tick_L6]
    simp (disch := omega) only [md_n, lt_eq, bd_some, gN, gN2, le_T, le_F, lt_T, lt_F, eq_T, eq_F, cN, plus_n, mul_n, rem_n, div_n, sub_n, re_T, re_F, rl_wr, rd_wl, ne_m1, m1_ne, m1_lt, m1_le, m1_ge, m1_gt, m1_refl, ↓reduceIte, L0, L1, L2, L3, L4, L5, L6, L7, L8, L9, L10, L11, L15, L16, L17, L18, L20, L24, L26, L28, L31, L32, L35, L36, L48, L57, L59, L63, L64, L96, L97, L99, L100, L112, L122, L128, L200, L255, L256, L1000, L1024, L2000, L3000, L1000000, L1000000007, e7]
  · intro f b c hc ⟨h1, h2, h3⟩
    right
    show ∃ a', _ ∧ repC S n T (dngS S n T c (dngA S n T c A)) a' ∧ fr XcC S a' ∧ wf S n (dngS S n T c (dngA S n T c A))
    generalize dngA S n T c A = B at *
    have hwf := dngS_wf hS h3 hc
    have e7 := h1.1
    have e8 := h1.2.1
    have e0 := h1.2.2.1
    have hst := (h3.1 c hc).1
    obtain ⟨⟨p1, p2, -⟩, -, -, ⟨q1, -⟩, -⟩ := hS.2.2.1 c hc
    have e3 : rd b (300 + 2 * c) 3 = bI (da S c) := by rw [h2 _ _ (by unfold XcC Xsc Xw; omega)]; exact q1
    have ep : rd b (300 + 2 * c) 0 = nI (pa S c) := by rw [h2 _ _ (by unfold XcC Xsc Xw; omega)]; exact p2
    have hrd := isReady_ok hS h2 h1 hc hst
    cases hd : da S c
    · rw [hd] at e3
      have e3' : rd b (300 + 2 * c) 3 = nI 0 := e3
      have hB : dngS S n T c B = B := by unfold dngS; rw [hd]; rfl
      rw [hB]
      refine ⟨b, ?_, h1, h2, h3⟩
      rw [f_X7_tick_L6]
      simp (disch := omega) only [md_n, lt_eq, bd_some, gN, gN2, le_T, le_F, lt_T, lt_F, eq_T, eq_F, cN, plus_n, mul_n, rem_n, div_n, sub_n, re_T, re_F, rl_wr, rd_wl, ne_m1, m1_ne, m1_lt, m1_le, m1_ge, m1_gt, m1_refl, ↓reduceIte, L0, L1, L2, L3, L4, L5, L6, L7, L8, L9, L10, L11, L15, L16, L17, L18, L20, L24, L26, L28, L31, L32, L35, L36, L48, L57, L59, L63, L64, L96, L97, L99, L100, L112, L122, L128, L200, L255, L256, L1000, L1024, L2000, L3000, L1000000, L1000000007, e7, e0, e3']
    · rw [hd] at e3
      have e3' : rd b (300 + 2 * c) 3 = nI 1 := e3
      cases hr : ready S T B c
      · rw [hr] at hrd
        have hrd' : f_X0_isReadyAt c (nI T) b = some (nI 0, b) := hrd
        have hB : dngS S n T c B = B := by unfold dngS; rw [hd, hr]; rfl
        rw [hB]
        refine ⟨b, ?_, h1, h2, h3⟩
        rw [f_X7_tick_L6]
        simp (disch := omega) only [md_n, lt_eq, bd_some, gN, gN2, le_T, le_F, lt_T, lt_F, eq_T, eq_F, cN, plus_n, mul_n, rem_n, div_n, sub_n, re_T, re_F, rl_wr, rd_wl, ne_m1, m1_ne, m1_lt, m1_le, m1_ge, m1_gt, m1_refl, ↓reduceIte, L0, L1, L2, L3, L4, L5, L6, L7, L8, L9, L10, L11, L15, L16, L17, L18, L20, L24, L26, L28, L31, L32, L35, L36, L48, L57, L59, L63, L64, L96, L97, L99, L100, L112, L122, L128, L200, L255, L256, L1000, L1024, L2000, L3000, L1000000, L1000000007, e7, e8, e0, e3', hrd']
      · rw [hr] at hrd
        have hrd' : f_X0_isReadyAt c (nI T) b = some (nI 1, b) := hrd
        obtain ⟨b2, o1, o2, o3⟩ := hush_ok hS h2 h3 h1 hc
        obtain ⟨b3, u1, u2, u3⟩ := beginC_ok (A := hushA S n c B) hS o3 h3 o2 hc (of_decide_eq_true hr).1
        have hB : dngS S n T c B = if free S n (hushA S n c B) c = true then beg S T c (hushA S n c B) else hushA S n c B := by unfold dngS; rw [hd, hr]; rfl
        rw [← hB] at u2
        refine ⟨b3, ?_, u2, u3, hwf⟩
        rw [f_X7_tick_L6]
        simp (disch := omega) only [md_n, lt_eq, bd_some, gN, gN2, le_T, le_F, lt_T, lt_F, eq_T, eq_F, cN, plus_n, mul_n, rem_n, div_n, sub_n, re_T, re_F, rl_wr, rd_wl, ne_m1, m1_ne, m1_lt, m1_le, m1_ge, m1_gt, m1_refl, ↓reduceIte, L0, L1, L2, L3, L4, L5, L6, L7, L8, L9, L10, L11, L15, L16, L17, L18, L20, L24, L26, L28, L31, L32, L35, L36, L48, L57, L59, L63, L64, L96, L97, L99, L100, L112, L122, L128, L200, L255, L256, L1000, L1024, L2000, L3000, L1000000, L1000000007, e7, e8, e0, e3', hrd', ep, o1, u1]
theorem dngM_ok {S a : St} {n T : Nat} {A : Ast} (hS : Still S n T) (hf : fr XcM S a) (hw : wf S n A) (hR : repM n T A a) (K : St → Option (Unit × St)) : ∃ a', f_X11_goTick_L56 K FU (nI 0) a = K a' ∧ repM n T (dngA S n T n A) a' ∧ fr XcM S a' := by
  have h24 := hS.1
  refine loopC (fun f (b : St) i => f_X11_goTick_L56 K f (nI i) b) (fun x => ∃ a', x = K a' ∧ repM n T (dngA S n T n A) a' ∧ fr XcM S a') (fun i b => repM n T (dngA S n T i A) b ∧ fr XcM S b ∧ wf S n (dngA S n T i A)) n ?_ ?_ n 0 FU a (by omega) (by unfold FU; omega) ⟨hR, hf, hw⟩
  · intro f b ⟨h1, h2, h3⟩
    refine ⟨b, ?_, h1, h2⟩
    have e7 := h1.1
    rw [f_X11_goTick_L56]
    simp (disch := omega) only [md_n, lt_eq, bd_some, gN, gN2, le_T, le_F, lt_T, lt_F, eq_T, eq_F, cN, plus_n, mul_n, rem_n, div_n, sub_n, re_T, re_F, rl_wr, rd_wl, ne_m1, m1_ne, m1_lt, m1_le, m1_ge, m1_gt, m1_refl, ↓reduceIte, L0, L1, L2, L3, L4, L5, L6, L7, L8, L9, L10, L11, L15, L16, L17, L18, L20, L24, L26, L28, L31, L32, L35, L36, L48, L57, L59, L63, L64, L96, L97, L99, L100, L112, L122, L128, L200, L255, L256, L1000, L1024, L2000, L3000, L1000000, L1000000007, e7]
  · intro f b c hc ⟨h1, h2, h3⟩
    right
    show ∃ a', _ ∧ repM n T (dngS S n T c (dngA S n T c A)) a' ∧ fr XcM S a' ∧ wf S n (dngS S n T c (dngA S n T c A))
    generalize dngA S n T c A = B at *
    have hwf := dngS_wf hS h3 hc
    have e7 := h1.1
    have hst := (h3.1 c hc).1
    obtain ⟨-, -, -, ⟨-, q1⟩, -⟩ := hS.2.2.1 c hc
    have e3 : rd b 80 c = bI (da S c) := by rw [h2 _ _ (by unfold XcM Xsm Xm; omega)]; exact q1
    have hrd := isWaiting_ok hS h2 h1 hc hst
    cases hd : da S c
    · rw [hd] at e3
      have e3' : rd b 80 c = nI 0 := e3
      have hB : dngS S n T c B = B := by unfold dngS; rw [hd]; rfl
      rw [hB]
      refine ⟨b, ?_, h1, h2, h3⟩
      rw [f_X11_goTick_L56]
      simp (disch := omega) only [md_n, lt_eq, bd_some, gN, gN2, le_T, le_F, lt_T, lt_F, eq_T, eq_F, cN, plus_n, mul_n, rem_n, div_n, sub_n, re_T, re_F, rl_wr, rd_wl, ne_m1, m1_ne, m1_lt, m1_le, m1_ge, m1_gt, m1_refl, ↓reduceIte, L0, L1, L2, L3, L4, L5, L6, L7, L8, L9, L10, L11, L15, L16, L17, L18, L20, L24, L26, L28, L31, L32, L35, L36, L48, L57, L59, L63, L64, L96, L97, L99, L100, L112, L122, L128, L200, L255, L256, L1000, L1024, L2000, L3000, L1000000, L1000000007, e7, e3']
    · rw [hd] at e3
      have e3' : rd b 80 c = nI 1 := e3
      cases hr : ready S T B c
      · rw [hr] at hrd
        have hrd' : f_X11_isWaiting (nI c) b = some (nI 0, b) := hrd
        have hB : dngS S n T c B = B := by unfold dngS; rw [hd, hr]; rfl
        rw [hB]
        refine ⟨b, ?_, h1, h2, h3⟩
        rw [f_X11_goTick_L56]
        simp (disch := omega) only [md_n, lt_eq, bd_some, gN, gN2, le_T, le_F, lt_T, lt_F, eq_T, eq_F, cN, plus_n, mul_n, rem_n, div_n, sub_n, re_T, re_F, rl_wr, rd_wl, ne_m1, m1_ne, m1_lt, m1_le, m1_ge, m1_gt, m1_refl, ↓reduceIte, L0, L1, L2, L3, L4, L5, L6, L7, L8, L9, L10, L11, L15, L16, L17, L18, L20, L24, L26, L28, L31, L32, L35, L36, L48, L57, L59, L63, L64, L96, L97, L99, L100, L112, L122, L128, L200, L255, L256, L1000, L1024, L2000, L3000, L1000000, L1000000007, e7, e3', hrd']
      · rw [hr] at hrd
        have hrd' : f_X11_isWaiting (nI c) b = some (nI 1, b) := hrd
        obtain ⟨b2, o1, o2, o3⟩ := hushM_ok hS h2 h3 h1 hc (fun (x65 : Int32) (S66 : St) =>
              if x65 = 0 then f_X11_goTick_L56 K f (nI (c + 1)) S66
              else
                bd_ (f_X11_start (nI c) S66) fun r68 S69 => f_X11_goTick_L56 K f (nI (c + 1)) S69)
        have hstep : f_X11_goTick_L56 K (f + 1) (nI c) b = (if bI (free S n B c) = 0 then f_X11_goTick_L56 K f (nI (c + 1)) b2 else bd_ (f_X11_start (nI c) b2) fun r68 S69 => f_X11_goTick_L56 K f (nI (c + 1)) S69) := by
          have h10 : (nI 1 = (0 : Int32)) = False := eq_false (by decide)
          rw [f_X11_goTick_L56]
          simp (disch := omega) only [md_n, lt_eq, bd_some, gN, gN2, le_T, le_F, lt_T, lt_F, eq_T, eq_F, cN, plus_n, mul_n, rem_n, div_n, sub_n, re_T, re_F, rl_wr, rd_wl, ne_m1, m1_ne, m1_lt, m1_le, m1_ge, m1_gt, m1_refl, ↓reduceIte, L0, L1, L2, L3, L4, L5, L6, L7, L8, L9, L10, L11, L15, L16, L17, L18, L20, L24, L26, L28, L31, L32, L35, L36, L48, L57, L59, L63, L64, L96, L97, L99, L100, L112, L122, L128, L200, L255, L256, L1000, L1024, L2000, L3000, L1000000, L1000000007, -L0, e7, e3', hrd', h10]
          exact o1
        have hB : dngS S n T c B = if free S n B c = true then beg S T c (hushA S n c B) else hushA S n c B := by unfold dngS; rw [hd, hr]; rfl
        cases hfr : free S n B c
        · rw [hfr, if_neg (by decide)] at hB
          rw [hB]
          rw [hB] at hwf
          refine ⟨b2, ?_, o2, o3, hwf⟩
          rw [hstep, hfr]; exact if_pos (by decide)
        · rw [hfr, if_pos rfl] at hB
          rw [hB]
          rw [hB] at hwf
          obtain ⟨b3, u1, u2, u3⟩ := beginM_ok (A := hushA S n c B) hS o3 h3 o2 hc (of_decide_eq_true hr).1
          refine ⟨b3, ?_, u2, u3, hwf⟩
          rw [hstep, hfr, if_neg (by decide), u1, bd_some]
theorem or_n {a b : Nat} (ha : a < 4294967296) (hb : b < 4294967296) : nI a ||| nI b = nI (a ||| b) := by
  apply Int32.toBitVec_inj.mp
  show BitVec.ofNat 32 a ||| BitVec.ofNat 32 b = BitVec.ofNat 32 (a ||| b)
  apply BitVec.eq_of_toNat_eq
  have : a ||| b < 2 ^ 32 := Nat.or_lt_two_pow ha hb
  rw [BitVec.toNat_or, BitVec.toNat_ofNat, BitVec.toNat_ofNat, BitVec.toNat_ofNat, Nat.mod_eq_of_lt ha, Nat.mod_eq_of_lt hb, Nat.mod_eq_of_lt this]
theorem tb_or (a b p : Nat) : tb (a ||| b) p = (tb a p || tb b p) := Nat.testBit_or a b p
theorem tb_pow (m p : Nat) : tb (2 ^ m) p = decide (m = p) := Nat.testBit_two_pow
theorem and_z {a b : Nat} (ha : a < 64) : (a &&& b = 0) ↔ ∀ p, p < 6 → (tb a p && tb b p) = false := by
  constructor
  · intro h p _
    have := congrArg (fun x => x.testBit p) h
    simp only [Nat.testBit_and, Nat.zero_testBit] at this
    exact this
  · intro h
    apply Nat.eq_of_testBit_eq
    intro p
    rw [Nat.testBit_and, Nat.zero_testBit]
    by_cases c : p < 6
    · exact h p c
    · have : a.testBit p = false := Nat.testBit_lt_two_pow (Nat.lt_of_lt_of_le ha (Nat.pow_le_pow_right (n := 2) (by decide) (show 6 ≤ p by omega)))
      rw [this, Bool.false_and]
def dmask (S : St) (T : Nat) (A : Ast) (i p : Nat) : Bool := (List.range i).any (fun o => da S o && ready S T A o && decide (pa S o = p))
theorem where_ok {S a : St} {n T : Nat} {A : Ast} (hS : Still S n T) (hf : fr XcC S a) (hw : wf S n A) (hR : repC S n T A a) : ∃ M, f_X7_whereDangerWaits a = some (nI M, a) ∧ M < 64 ∧ ∀ p, p < 6 → tb M p = dmask S T A n p := by
  have h24 := hS.1
  unfold f_X7_whereDangerWaits
  refine loopC (fun f (M : Nat) i => f_X7_whereDangerWaits_L4 (fun x24 S25 => some (x24, S25)) f (nI M) (nI i) a) (fun x => ∃ M, x = some (nI M, a) ∧ M < 64 ∧ ∀ p, p < 6 → tb M p = dmask S T A n p) (fun i M => M < 64 ∧ ∀ p, p < 6 → tb M p = dmask S T A i p) n ?_ ?_ n 0 FU 0 (by omega) (by unfold FU; omega) ⟨by omega, fun p _ => Nat.zero_testBit p⟩
  · intro f M ⟨h1, h2⟩
    refine ⟨M, ?_, h1, h2⟩
    have e7 := hR.1
    show f_X7_whereDangerWaits_L4 _ _ _ _ _ = _
    rw [f_X7_whereDangerWaits_L4]
    simp (disch := omega) only [md_n, lt_eq, bd_some, gN, gN2, le_T, le_F, lt_T, lt_F, eq_T, eq_F, cN, plus_n, mul_n, rem_n, div_n, sub_n, re_T, re_F, rl_wr, rd_wl, ne_m1, m1_ne, m1_lt, m1_le, m1_ge, m1_gt, m1_refl, ↓reduceIte, L0, L1, L2, L3, L4, L5, L6, L7, L8, L9, L10, L11, L15, L16, L17, L18, L20, L24, L26, L28, L31, L32, L35, L36, L48, L57, L59, L63, L64, L96, L97, L99, L100, L112, L122, L128, L200, L255, L256, L1000, L1024, L2000, L3000, L1000000, L1000000007, e7]
  · intro f M c hc ⟨h1, h2⟩
    right
    have e7 := hR.1
    have e8 := hR.2.1
    have e0 := hR.2.2.1
    have hst := (hw.1 c hc).1
    obtain ⟨⟨p1, p2, -⟩, -, -, ⟨q1, -⟩, -⟩ := hS.2.2.1 c hc
    have e3 : rd a (300 + 2 * c) 3 = bI (da S c) := by rw [hf _ _ (by unfold XcC Xsc Xw; omega)]; exact q1
    have ep : rd a (300 + 2 * c) 0 = nI (pa S c) := by rw [hf _ _ (by unfold XcC Xsc Xw; omega)]; exact p2
    have hrd := isReady_ok hS hf hR hc hst
    have hmk : ∀ p, dmask S T A (c + 1) p = (dmask S T A c p || (da S c && ready S T A c && decide (pa S c = p))) := fun p => by unfold dmask; rw [List.range_succ, List.any_append]; simp
    have keep : (da S c && ready S T A c) = false → ∀ p, p < 6 → tb M p = dmask S T A (c + 1) p := fun hz p hp => by rw [hmk, hz, Bool.false_and, Bool.or_false]; exact h2 p hp
    cases hd : da S c
    · rw [hd] at e3
      have e3' : rd a (300 + 2 * c) 3 = nI 0 := e3
      refine ⟨M, ?_, h1, keep (by rw [hd]; rfl)⟩
      show f_X7_whereDangerWaits_L4 _ _ _ _ _ = _
      rw [f_X7_whereDangerWaits_L4]
      simp (disch := omega) only [md_n, lt_eq, bd_some, gN, gN2, le_T, le_F, lt_T, lt_F, eq_T, eq_F, cN, plus_n, mul_n, rem_n, div_n, sub_n, re_T, re_F, rl_wr, rd_wl, ne_m1, m1_ne, m1_lt, m1_le, m1_ge, m1_gt, m1_refl, ↓reduceIte, L0, L1, L2, L3, L4, L5, L6, L7, L8, L9, L10, L11, L15, L16, L17, L18, L20, L24, L26, L28, L31, L32, L35, L36, L48, L57, L59, L63, L64, L96, L97, L99, L100, L112, L122, L128, L200, L255, L256, L1000, L1024, L2000, L3000, L1000000, L1000000007, e7, e0, e3']
    · rw [hd] at e3
      have e3' : rd a (300 + 2 * c) 3 = nI 1 := e3
      cases hr : ready S T A c
      · rw [hr] at hrd
        have hrd' : f_X0_isReadyAt c (nI T) a = some (nI 0, a) := hrd
        refine ⟨M, ?_, h1, keep (by rw [hd, hr]; rfl)⟩
        show f_X7_whereDangerWaits_L4 _ _ _ _ _ = _
        rw [f_X7_whereDangerWaits_L4]
        simp (disch := omega) only [md_n, lt_eq, bd_some, gN, gN2, le_T, le_F, lt_T, lt_F, eq_T, eq_F, cN, plus_n, mul_n, rem_n, div_n, sub_n, re_T, re_F, rl_wr, rd_wl, ne_m1, m1_ne, m1_lt, m1_le, m1_ge, m1_gt, m1_refl, ↓reduceIte, L0, L1, L2, L3, L4, L5, L6, L7, L8, L9, L10, L11, L15, L16, L17, L18, L20, L24, L26, L28, L31, L32, L35, L36, L48, L57, L59, L63, L64, L96, L97, L99, L100, L112, L122, L128, L200, L255, L256, L1000, L1024, L2000, L3000, L1000000, L1000000007, e7, e8, e0, e3', hrd']
      · rw [hr] at hrd
        have hrd' : f_X0_isReadyAt c (nI T) a = some (nI 1, a) := hrd
        have hsh : nI 1 <<< (nI (pa S c) &&& nI 31) = nI (2 ^ pa S c) := shl1 (l := pa S c) (by omega)
        have hp64 : 2 ^ pa S c < 64 := Nat.lt_of_lt_of_le (Nat.pow_lt_pow_right (by decide) p1) (by decide)
        have hor : nI M ||| nI (2 ^ pa S c) = nI (M ||| 2 ^ pa S c) := or_n (by omega) (by omega)
        refine ⟨M ||| 2 ^ pa S c, ?_, Nat.or_lt_two_pow (n := 6) h1 hp64, fun p hp => ?_⟩
        · show f_X7_whereDangerWaits_L4 _ _ _ _ _ = _
          rw [f_X7_whereDangerWaits_L4]
          simp (disch := omega) only [md_n, lt_eq, bd_some, gN, gN2, le_T, le_F, lt_T, lt_F, eq_T, eq_F, cN, plus_n, mul_n, rem_n, div_n, sub_n, re_T, re_F, rl_wr, rd_wl, ne_m1, m1_ne, m1_lt, m1_le, m1_ge, m1_gt, m1_refl, ↓reduceIte, L0, L1, L2, L3, L4, L5, L6, L7, L8, L9, L10, L11, L15, L16, L17, L18, L20, L24, L26, L28, L31, L32, L35, L36, L48, L57, L59, L63, L64, L96, L97, L99, L100, L112, L122, L128, L200, L255, L256, L1000, L1024, L2000, L3000, L1000000, L1000000007, e7, e8, e0, e3', hrd', ep, hsh, hor]
        · rw [tb_or, tb_pow, h2 p hp, hmk, hd, hr]; rfl
