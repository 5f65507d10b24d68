theorem sayP_ne {S : St} {n q c : Nat} {A : Ast} (h : ¬ (c < n ∧ A.st c = 1 ∧ pa S c < q)) : (sayP S n q A).st c = A.st c ∧ (sayP S n q A).sd c = A.sd c := ⟨if_neg h, if_neg h⟩
theorem sayP_eq {S : St} {n q c : Nat} {A : Ast} (h : c < n ∧ A.st c = 1 ∧ pa S c < q) : (sayP S n q A).st c = sayS A c ∧ (sayP S n q A).sd c = A.sd c + 1 := ⟨if_pos h, if_pos h⟩
theorem saySounds_ok {S a : St} {n T : Nat} {A : Ast} (hS : Still S n T) (hf : fr XcC S a) (hw : wf S n A) (hR : repC S n T A a) : ∃ a', f_X7_saySounds a = some ((), a') ∧ repC S n T (sayA n A) a' ∧ fr XcC S a' := by
  have h24 := hS.1
  have hpa : ∀ c, c < n → pa S c < 6 := fun c hc => (hS.2.2.1 c hc).1.1
  have e6 : sayP S n 6 A = sayA n A := by
    unfold sayP sayA
    have : ∀ c, (c < n ∧ A.st c = 1 ∧ pa S c < 6) = (c < n ∧ A.st c = 1) := fun c => propext ⟨fun h => ⟨h.1, h.2.1⟩, fun h => ⟨h.1, h.2, hpa c h.1⟩⟩
    simp only [this]
  unfold f_X7_saySounds
  refine loopC (fun f (b : St) i => f_X7_saySounds_L2 (fun S26 => some ((), S26)) f (nI i) b) (fun x => ∃ a', x = some ((), a') ∧ repC S n T (sayA n A) a' ∧ fr XcC S a') (fun q b => repC S n T (sayP S n q A) b ∧ fr XcC S b) 6 ?_ ?_ 6 0 FU a (by omega) (by unfold FU; omega) ⟨?_, hf⟩
  · intro f b ⟨h1, h2⟩
    rw [e6] at h1
    refine ⟨b, ?_, h1, h2⟩
    rw [f_X7_saySounds_L2]
    simp (disch := omega) only [md_n, lt_eq, bd_some, gN, gN2, le_T, le_F, lt_T, lt_F, eq_T, eq_F, cN, plus_n, mul_n, rem_n, div_n, sub_n, re_T, re_F, rl_wr, rd_wl, ne_m1, m1_ne, m1_lt, m1_le, m1_ge, m1_gt, m1_refl, ↓reduceIte, L0, L1, L2, L3, L4, L5, L6, L7, L8, L9, L10, L11, L15, L16, L17, L18, L20, L24, L26, L28, L31, L32, L35, L36, L48, L57, L59, L63, L64, L96, L97, L99, L100, L112, L122, L128, L200, L255, L256, L1000, L1024, L2000, L3000, L1000000, L1000000007]
  · intro f b q hq ⟨h1, h2⟩
    right
    rcases h1.2.2.2.2 q hq with ⟨c, c1, c2, c3, c4⟩ | ⟨c1, c2⟩
    · have hcq : ¬ (c < n ∧ A.st c = 1 ∧ pa S c < q) := fun z => by omega
      obtain ⟨z1, z2⟩ := sayP_ne hcq
      have hst : A.st c = 1 := by rw [← z1]; exact c2
      obtain ⟨g1, g2, g3, g4, g5⟩ := h1
      obtain ⟨k1, k2, k3, k4, k5, k6⟩ := g4 c c1
      obtain ⟨m1, m2, w, m3, m4, m5, m6⟩ := k6 c2
      rw [z1, hst] at k1
      rw [z2] at k2 m5 m6
      obtain ⟨b2, o1, o2, o3, o4, o5⟩ := saySound_ok (b := b) (A := A) (c := c) (w := w) (by omega) ((hw.1 c c1).2.2.2 hst).1 m3 m5 m6 k1 k2 k4 m1 m4 m2
      have huniq : ∀ d, d < n → A.st d = 1 → pa S d = q → d = c := fun d hd hz hp => hw.2 d c hd c1 hz hst (by rw [hp, c3])
      have hcq1 : c < n ∧ A.st c = 1 ∧ pa S c < q + 1 := ⟨c1, hst, by omega⟩
      have hsame : ∀ d, d ≠ c → d < n → (sayP S n (q + 1) A).st d = (sayP S n q A).st d ∧ (sayP S n (q + 1) A).sd d = (sayP S n q A).sd d := fun d hdc hd => by
        by_cases y : d < n ∧ A.st d = 1 ∧ pa S d < q
        · obtain ⟨y1, y2⟩ := sayP_eq y
          obtain ⟨y3, y4⟩ := sayP_eq (show d < n ∧ A.st d = 1 ∧ pa S d < q + 1 from ⟨y.1, y.2.1, by omega⟩)
          rw [y1, y2, y3, y4]; exact ⟨rfl, rfl⟩
        · obtain ⟨y1, y2⟩ := sayP_ne y
          obtain ⟨y3, y4⟩ := sayP_ne (show ¬ (d < n ∧ A.st d = 1 ∧ pa S d < q + 1) from fun z => by
            by_cases x : pa S d = q
            · exact hdc (huniq d hd z.2.1 x)
            · exact y ⟨z.1, z.2.1, by omega⟩)
          rw [y1, y2, y3, y4]; exact ⟨rfl, rfl⟩
      obtain ⟨x1, x2⟩ := sayP_eq hcq1
      have e47 : rd b2 47 q = nI c := by rw [o5 _ _ (by omega)]; exact c4
      have n2 : nC b2 = n := by rw [← g3]; unfold nC; rw [o5 _ _ (by omega)]
      have hs3 : sayS A c ≤ 3 := by unfold sayS; split; omega; split <;> omega
      -- the calls
      have hcalls : ∀ b3, fr (fun k j => k = 47 ∧ j = q) b2 b3 → ∀ d, d < n → rd b3 (300 + 2 * d) 6 = nI ((sayP S n (q + 1) A).st d) ∧ rd b3 (300 + 2 * d) 7 = nI ((sayP S n (q + 1) A).sd d) ∧ rd b3 (300 + 2 * d) 8 = A.bg d ∧ rd b3 (300 + 2 * d) 9 = bI (A.ts d) ∧ ((sayP S n (q + 1) A).st d = 0 → rd b3 (300 + 2 * d) 12 = nI 0) ∧
          ((sayP S n (q + 1) A).st d = 1 → rd b3 (300 + 2 * d) 11 = nI (A.en d).length ∧ (∀ i, i < (A.en d).length → rd b3 (300 + 2 * d + 1) i = nI ((A.en d).getD i 0)) ∧ ∃ w, w < (A.en d).length ∧ rd b3 (300 + 2 * d) 12 = nI w ∧ (∀ i, i < w → (A.en d).getD i 0 ≤ (sayP S n (q + 1) A).sd d) ∧ (sayP S n (q + 1) A).sd d < (A.en d).getD w 0) := by
        intro b3 hb3 d hd
        by_cases y : d = c
        · subst y
          rw [x1, x2]
          refine ⟨by rw [hb3 _ _ (by omega)]; exact o2, by rw [hb3 _ _ (by omega)]; exact o3, by rw [hb3 _ _ (by omega), o5 _ _ (by omega)]; exact k3, by rw [hb3 _ _ (by omega), o5 _ _ (by omega)]; exact k4, fun z => ?_, fun z => ?_⟩
          · have : sayS A d ≠ 0 := by unfold sayS; split; omega; split <;> omega
            exact absurd z this
          · obtain ⟨w', v1, v2, v3, v4⟩ := o4 z
            exact ⟨by rw [hb3 _ _ (by omega), o5 _ _ (by omega)]; exact m1, fun i hi => by rw [hb3 _ _ (by omega), o5 _ _ (by omega)]; exact m2 i hi, w', v1, by rw [hb3 _ _ (by omega)]; exact v2, v3, v4⟩
        · obtain ⟨y1, y2⟩ := hsame d y hd
          have r1 : ∀ j, rd b3 (300 + 2 * d) j = rd b (300 + 2 * d) j := fun j => by rw [hb3 _ _ (by omega), o5 _ _ (by omega)]
          have r2 : ∀ j, rd b3 (300 + 2 * d + 1) j = rd b (300 + 2 * d + 1) j := fun j => by rw [hb3 _ _ (by omega), o5 _ _ (by omega)]
          rw [y1, y2, r1, r1, r1, r1, r1, r1]
          obtain ⟨v1, v2, v3, v4, v5, v6⟩ := g4 d hd
          refine ⟨v1, v2, v3, v4, v5, fun z => ?_⟩
          obtain ⟨t1, t2, t3⟩ := v6 z
          exact ⟨t1, fun i hi => by rw [r2]; exact t2 i hi, t3⟩
      have hother : ∀ p, p < 6 → p ≠ q → (∃ d, d < n ∧ (sayP S n (q + 1) A).st d = 1 ∧ pa S d = p ∧ rd b 47 p = nI d) ∨ ((∀ d, d < n → (sayP S n (q + 1) A).st d = 1 → pa S d ≠ p) ∧ rd b 47 p = -1) := fun p hp hpq => by
        rcases g5 p hp with ⟨d, v1, v2, v3, v4⟩ | ⟨v1, v2⟩
        · exact Or.inl ⟨d, v1, by rw [(hsame d (fun z => hpq (by rw [← v3, z, c3])) v1).1]; exact v2, v3, v4⟩
        · refine Or.inr ⟨fun d hd hz hpp => ?_, v2⟩
          rw [(hsame d (fun z => hpq (by rw [← hpp, z, c3])) hd).1] at hz
          exact v1 d hd hz hpp
      by_cases y : sayS A c = 1
      · have o2' : rd b2 (300 + 2 * c) 6 = nI 1 := by rw [o2, y]
        refine ⟨b2, ?_, ⟨by rw [o5 _ _ (by omega)]; exact g1, by rw [o5 _ _ (by omega)]; exact g2, n2, hcalls b2 (fr.refl _ _), fun p hp => ?_⟩, h2.trans (o5.mono (fun k j h => by unfold XcC; omega))⟩
        · rw [f_X7_saySounds_L2]
          simp (disch := omega) only [md_n, lt_eq, bd_some, gN, gN2, le_T, le_F, lt_T, lt_F, eq_T, eq_F, cN, plus_n, mul_n, rem_n, div_n, sub_n, re_T, re_F, rl_wr, rd_wl, ne_m1, m1_ne, m1_lt, m1_le, m1_ge, m1_gt, m1_refl, ↓reduceIte, L0, L1, L2, L3, L4, L5, L6, L7, L8, L9, L10, L11, L15, L16, L17, L18, L20, L24, L26, L28, L31, L32, L35, L36, L48, L57, L59, L63, L64, L96, L97, L99, L100, L112, L122, L128, L200, L255, L256, L1000, L1024, L2000, L3000, L1000000, L1000000007, c4, g3, o1, e47, n2, o2']
        · by_cases hpq : p = q
          · subst hpq
            exact Or.inl ⟨c, c1, by rw [x1]; exact y, c3, e47⟩
          · rw [o5 _ _ (by omega)]; exact hother p hp hpq
      · have hb3 : fr (fun k j => k = 47 ∧ j = q) b2 (wr b2 47 q (-nI 1)) := (fr.refl _ _).wr (by omega)
        refine ⟨wr b2 47 q (-nI 1), ?_, ⟨by rw [hb3 _ _ (by omega), o5 _ _ (by omega)]; exact g1, by rw [hb3 _ _ (by omega), o5 _ _ (by omega)]; exact g2, by rw [← n2]; unfold nC; rw [hb3 _ _ (by omega)], hcalls _ hb3, fun p hp => ?_⟩, (h2.trans (o5.mono (fun k j h => by unfold XcC; omega))).wr (by unfold XcC; omega)⟩
        · rw [f_X7_saySounds_L2]
          simp (disch := omega) only [md_n, lt_eq, bd_some, gN, gN2, le_T, le_F, lt_T, lt_F, eq_T, eq_F, cN, plus_n, mul_n, rem_n, div_n, sub_n, re_T, re_F, rl_wr, rd_wl, ne_m1, m1_ne, m1_lt, m1_le, m1_ge, m1_gt, m1_refl, ↓reduceIte, L0, L1, L2, L3, L4, L5, L6, L7, L8, L9, L10, L11, L15, L16, L17, L18, L20, L24, L26, L28, L31, L32, L35, L36, L48, L57, L59, L63, L64, L96, L97, L99, L100, L112, L122, L128, L200, L255, L256, L1000, L1024, L2000, L3000, L1000000, L1000000007, c4, g3, o1, e47, n2, o2]
        · by_cases hpq : p = q
          · subst hpq
            refine Or.inr ⟨fun d hd hz hpp => ?_, by rw [rw_eq]; rfl⟩
            by_cases yd : d = c
            · subst yd; rw [x1] at hz; exact y hz
            · rw [(hsame d yd hd).1] at hz
              have hdq : ¬ (d < n ∧ A.st d = 1 ∧ pa S d < p) := fun z => by omega
              rw [(sayP_ne hdq).1] at hz
              exact yd (huniq d hd hz hpp)
          · rw [hb3 _ _ (by omega), o5 _ _ (by omega)]; exact hother p hp hpq
    · have heq : sayP S n (q + 1) A = sayP S n q A := by
        have : ∀ d, (d < n ∧ A.st d = 1 ∧ pa S d < q + 1) = (d < n ∧ A.st d = 1 ∧ pa S d < q) := fun d => propext ⟨fun h => ⟨h.1, h.2.1, by
          by_cases x : pa S d = q
          · have hdq : ¬ (d < n ∧ A.st d = 1 ∧ pa S d < q) := fun z => by omega
            exact absurd x (c1 d h.1 (by rw [(sayP_ne hdq).1]; exact h.2.1))
          · omega⟩, fun h => ⟨h.1, h.2.1, by omega⟩⟩
        unfold sayP
        simp only [this]
      have c2' : rd b 47 q = -nI 1 := c2
      refine ⟨b, ?_, by rw [heq]; exact h1, h2⟩
      rw [f_X7_saySounds_L2]
      simp (disch := omega) only [md_n, lt_eq, bd_some, gN, gN2, le_T, le_F, lt_T, lt_F, eq_T, eq_F, cN, plus_n, mul_n, rem_n, div_n, sub_n, re_T, re_F, rl_wr, rd_wl, ne_m1, m1_ne, m1_lt, m1_le, m1_ge, m1_gt, m1_refl, ↓reduceIte, L0, L1, L2, L3, L4, L5, L6, L7, L8, L9, L10, L11, L15, L16, L17, L18, L20, L24, L26, L28, L31, L32, L35, L36, L48, L57, L59, L63, L64, L96, L97, L99, L100, L112, L122, L128, L200, L255, L256, L1000, L1024, L2000, L3000, L1000000, L1000000007, c2']
  · have : sayP S n 0 A = A := by
      have : ∀ d, (d < n ∧ A.st d = 1 ∧ pa S d < 0) = False := fun d => eq_false (by omega)
      unfold sayP
      simp only [this, if_false]
      rfl
    rw [this]; exact hR
theorem any_contains {L : List Nat} (h : L.length ≤ 16) (x : Nat) : (List.range 16).any (fun i => decide (i < L.length ∧ L.getD i 0 = x)) = L.contains x := by
  rw [Bool.eq_iff_iff, contains_at, List.any_eq_true]
  constructor
  · rintro ⟨i, -, hi⟩; exact ⟨i, of_decide_eq_true hi⟩
  · rintro ⟨i, h1, h2⟩; exact ⟨i, List.mem_range.mpr (by omega), decide_eq_true ⟨h1, h2⟩⟩
theorem sayOne_ok {b : St} {A : Ast} {c : Nat} (hc : c < 24) (h : incr (A.en c)) (hsd : A.sd c ≤ 200) (e2 : rd b 82 c = nI (A.sd c)) (e4 : rd b 84 c = bI (A.ts c)) (e5 : rd b 85 c = nI (lastE (A.en c))) (e6 : ∀ i, i < 16 → rd b 86 (16 * c + i) = if i < (A.en c).length then nI ((A.en c).getD i 0) else -1) :
    f_X11_sayOne (nI c) b = some ((), wr (wr b 82 c (nI (A.sd c + 1))) 81 c (nI (sayS A c))) := by
  have hlen := h.2.1
  have hl : lastE (A.en c) ≤ 200 := h.2.2.1 _ (by have := h.1; have : 0 < (A.en c).length := List.length_pos_iff.mpr this; omega)
  unfold f_X11_sayOne
  rw [gd_t (inb_n hc (by decide)), gd_t (inb_n hc (by decide)), lt_eq, show wr b 82 (nI c).toNatClampNeg (rd b 82 (nI c).toNatClampNeg + (1 : Int32)) = wr b 82 c (nI (A.sd c + 1)) by rw [cl_n (by omega), e2, show nI (A.sd c) + (1 : Int32) = nI (A.sd c + 1) from plus_n _ _]]
  generalize hb2 : wr b 82 c (nI (A.sd c + 1)) = b2
  have g2 : rd b2 82 c = nI (A.sd c + 1) := by rw [← hb2, rw_eq]
  have g : fr (fun k _ => k = 82) b b2 := by rw [← hb2]; exact (fr.refl _ _).wr rfl
  have g4 : rd b2 84 c = bI (A.ts c) := by rw [g _ _ (by omega)]; exact e4
  have g5 : rd b2 85 c = nI (lastE (A.en c)) := by rw [g _ _ (by omega)]; exact e5
  have g6 : ∀ i, i < 16 → rd b2 86 (16 * c + i) = if i < (A.en c).length then nI ((A.en c).getD i 0) else -1 := fun i hi => by rw [g _ _ (by omega)]; exact e6 i hi
  refine loopC (fun f (x : Bool) i => f_X11_sayOne_L14 _ (nI c) f (bI x) (nI i) b2) (fun y => y = some ((), wr b2 81 c (nI (sayS A c)))) (fun i x => x = (List.range i).any (fun i => decide (i < (A.en c).length ∧ (A.en c).getD i 0 = A.sd c + 1))) 16 ?_ ?_ 16 0 FU false (by omega) (by unfold FU; omega) rfl
  · rintro f x hx
    rw [any_contains hlen] at hx
    subst hx
    show f_X11_sayOne_L14 _ _ _ _ _ _ = _
    rw [f_X11_sayOne_L14]
    by_cases d : A.sd c + 1 = lastE (A.en c)
    · have hs : sayS A c = 2 := if_pos d
      rw [hs]
      simp (disch := omega) only [md_n, lt_eq, bd_some, gN, gN2, le_T, le_F, lt_T, lt_F, eq_T, eq_F, cN, plus_n, mul_n, rem_n, div_n, sub_n, re_T, re_F, rl_wr, rd_wl, ne_m1, m1_ne, m1_lt, m1_le, m1_ge, m1_gt, m1_refl, ↓reduceIte, L0, L1, L2, L3, L4, L5, L6, L7, L8, L9, L10, L11, L15, L16, L17, L18, L20, L24, L26, L28, L31, L32, L35, L36, L48, L57, L59, L63, L64, L96, L97, L99, L100, L112, L122, L128, L200, L255, L256, L1000, L1024, L2000, L3000, L1000000, L1000000007, g2, g5]
    · have hs : sayS A c = if ((A.en c).contains (A.sd c + 1) && A.ts c) = true then 3 else 1 := if_neg d
      rw [hs]
      cases hcn : (A.en c).contains (A.sd c + 1)
      · have : bI false = nI 0 := rfl
        rw [this]
        simp (disch := omega) only [md_n, lt_eq, bd_some, gN, gN2, le_T, le_F, lt_T, lt_F, eq_T, eq_F, cN, plus_n, mul_n, rem_n, div_n, sub_n, re_T, re_F, rl_wr, rd_wl, ne_m1, m1_ne, m1_lt, m1_le, m1_ge, m1_gt, m1_refl, ↓reduceIte, L0, L1, L2, L3, L4, L5, L6, L7, L8, L9, L10, L11, L15, L16, L17, L18, L20, L24, L26, L28, L31, L32, L35, L36, L48, L57, L59, L63, L64, L96, L97, L99, L100, L112, L122, L128, L200, L255, L256, L1000, L1024, L2000, L3000, L1000000, L1000000007, g2, g5, Bool.false_and, Bool.false_eq_true]
      · have : bI true = nI 1 := rfl
        rw [this]
        cases ht : A.ts c
        · rw [ht] at g4
          have g4' : rd b2 84 c = nI 0 := g4
          simp (disch := omega) only [md_n, lt_eq, bd_some, gN, gN2, le_T, le_F, lt_T, lt_F, eq_T, eq_F, cN, plus_n, mul_n, rem_n, div_n, sub_n, re_T, re_F, rl_wr, rd_wl, ne_m1, m1_ne, m1_lt, m1_le, m1_ge, m1_gt, m1_refl, ↓reduceIte, L0, L1, L2, L3, L4, L5, L6, L7, L8, L9, L10, L11, L15, L16, L17, L18, L20, L24, L26, L28, L31, L32, L35, L36, L48, L57, L59, L63, L64, L96, L97, L99, L100, L112, L122, L128, L200, L255, L256, L1000, L1024, L2000, L3000, L1000000, L1000000007, g2, g5, g4', Bool.true_and, Bool.false_eq_true]
        · rw [ht] at g4
          have g4' : rd b2 84 c = nI 1 := g4
          simp (disch := omega) only [md_n, lt_eq, bd_some, gN, gN2, le_T, le_F, lt_T, lt_F, eq_T, eq_F, cN, plus_n, mul_n, rem_n, div_n, sub_n, re_T, re_F, rl_wr, rd_wl, ne_m1, m1_ne, m1_lt, m1_le, m1_ge, m1_gt, m1_refl, ↓reduceIte, L0, L1, L2, L3, L4, L5, L6, L7, L8, L9, L10, L11, L15, L16, L17, L18, L20, L24, L26, L28, L31, L32, L35, L36, L48, L57, L59, L63, L64, L96, L97, L99, L100, L112, L122, L128, L200, L255, L256, L1000, L1024, L2000, L3000, L1000000, L1000000007, g2, g5, g4', Bool.true_and]
  · rintro f x i hi hx
    right
    have eany : (List.range (i + 1)).any (fun i => decide (i < (A.en c).length ∧ (A.en c).getD i 0 = A.sd c + 1)) = (x || decide (i < (A.en c).length ∧ (A.en c).getD i 0 = A.sd c + 1)) := by rw [List.range_succ, List.any_append, hx]; simp
    refine ⟨_, ?_, eany.symm⟩
    have gi := g6 i hi
    cases x
    · rw [Bool.false_or]
      by_cases d : i < (A.en c).length ∧ (A.en c).getD i 0 = A.sd c + 1
      · rw [if_pos d.1, d.2] at gi
        rw [decide_eq_true d]
        show f_X11_sayOne_L14 _ _ _ (nI 0) _ _ = f_X11_sayOne_L14 _ _ _ (nI 1) _ _
        rw [f_X11_sayOne_L14]
        simp (disch := omega) only [md_n, lt_eq, bd_some, gN, gN2, le_T, le_F, lt_T, lt_F, eq_T, eq_F, cN, plus_n, mul_n, rem_n, div_n, sub_n, re_T, re_F, rl_wr, rd_wl, ne_m1, m1_ne, m1_lt, m1_le, m1_ge, m1_gt, m1_refl, ↓reduceIte, L0, L1, L2, L3, L4, L5, L6, L7, L8, L9, L10, L11, L15, L16, L17, L18, L20, L24, L26, L28, L31, L32, L35, L36, L48, L57, L59, L63, L64, L96, L97, L99, L100, L112, L122, L128, L200, L255, L256, L1000, L1024, L2000, L3000, L1000000, L1000000007, gi, g2]
      · rw [decide_eq_false d]
        show f_X11_sayOne_L14 _ _ _ (nI 0) _ _ = f_X11_sayOne_L14 _ _ _ (nI 0) _ _
        rw [f_X11_sayOne_L14]
        by_cases d1 : i < (A.en c).length
        · rw [if_pos d1] at gi
          have := h.2.2.1 i d1
          have d3 : (A.en c).getD i 0 ≠ A.sd c + 1 := fun z => d ⟨d1, z⟩
          simp (disch := omega) only [md_n, lt_eq, bd_some, gN, gN2, le_T, le_F, lt_T, lt_F, eq_T, eq_F, cN, plus_n, mul_n, rem_n, div_n, sub_n, re_T, re_F, rl_wr, rd_wl, ne_m1, m1_ne, m1_lt, m1_le, m1_ge, m1_gt, m1_refl, ↓reduceIte, L0, L1, L2, L3, L4, L5, L6, L7, L8, L9, L10, L11, L15, L16, L17, L18, L20, L24, L26, L28, L31, L32, L35, L36, L48, L57, L59, L63, L64, L96, L97, L99, L100, L112, L122, L128, L200, L255, L256, L1000, L1024, L2000, L3000, L1000000, L1000000007, gi, g2]
        · rw [if_neg d1] at gi
          have gi' : rd b2 86 (16 * c + i) = -nI 1 := gi
          simp (disch := omega) only [md_n, lt_eq, bd_some, gN, gN2, le_T, le_F, lt_T, lt_F, eq_T, eq_F, cN, plus_n, mul_n, rem_n, div_n, sub_n, re_T, re_F, rl_wr, rd_wl, ne_m1, m1_ne, m1_lt, m1_le, m1_ge, m1_gt, m1_refl, ↓reduceIte, L0, L1, L2, L3, L4, L5, L6, L7, L8, L9, L10, L11, L15, L16, L17, L18, L20, L24, L26, L28, L31, L32, L35, L36, L48, L57, L59, L63, L64, L96, L97, L99, L100, L112, L122, L128, L200, L255, L256, L1000, L1024, L2000, L3000, L1000000, L1000000007, gi', g2]
    · show f_X11_sayOne_L14 _ _ _ (nI 1) _ _ = f_X11_sayOne_L14 _ _ _ (nI 1) _ _
      rw [f_X11_sayOne_L14]
      simp (disch := omega) only [md_n, lt_eq, bd_some, gN, gN2, le_T, le_F, lt_T, lt_F, eq_T, eq_F, cN, plus_n, mul_n, rem_n, div_n, sub_n, re_T, re_F, rl_wr, rd_wl, ne_m1, m1_ne, m1_lt, m1_le, m1_ge, m1_gt, m1_refl, ↓reduceIte, L0, L1, L2, L3, L4, L5, L6, L7, L8, L9, L10, L11, L15, L16, L17, L18, L20, L24, L26, L28, L31, L32, L35, L36, L48, L57, L59, L63, L64, L96, L97, L99, L100, L112, L122, L128, L200, L255, L256, L1000, L1024, L2000, L3000, L1000000, L1000000007]
theorem sayM_ok {S a : St} {n T : Nat} {A : Ast} (hS : Still S n T) (hf : fr XcM S a) (hw : wf S n A) (hR : repM n T A a) (K : St → Option (Unit × St)) : ∃ a', f_X11_goTick_L272 K FU (nI 0) a = K a' ∧ repM n T (sayA n A) a' ∧ fr XcM S a' := by
  have h24 := hS.1
  have e6 : sayQ n n A = sayA n A := by
    unfold sayQ sayA
    have : ∀ c, (c < n ∧ A.st c = 1 ∧ c < n) = (c < n ∧ A.st c = 1) := fun c => propext ⟨fun h => ⟨h.1, h.2.1⟩, fun h => ⟨h.1, h.2, h.1⟩⟩
    simp only [this]
  refine loopC (fun f (b : St) i => f_X11_goTick_L272 K f (nI i) b) (fun x => ∃ a', x = K a' ∧ repM n T (sayA n A) a' ∧ fr XcM S a') (fun q b => repM n T (sayQ n q A) b ∧ fr XcM S b) n ?_ ?_ n 0 FU a (by omega) (by unfold FU; omega) ⟨?_, hf⟩
  · intro f b ⟨h1, h2⟩
    rw [e6] at h1
    refine ⟨b, ?_, h1, h2⟩
    have e7 := h1.1
    rw [f_X11_goTick_L272]
    simp (disch := omega) only [md_n, lt_eq, bd_some, gN, gN2, le_T, le_F, lt_T, lt_F, eq_T, eq_F, cN, plus_n, mul_n, rem_n, div_n, sub_n, re_T, re_F, rl_wr, rd_wl, ne_m1, m1_ne, m1_lt, m1_le, m1_ge, m1_gt, m1_refl, ↓reduceIte, L0, L1, L2, L3, L4, L5, L6, L7, L8, L9, L10, L11, L15, L16, L17, L18, L20, L24, L26, L28, L31, L32, L35, L36, L48, L57, L59, L63, L64, L96, L97, L99, L100, L112, L122, L128, L200, L255, L256, L1000, L1024, L2000, L3000, L1000000, L1000000007, e7]
  · intro f b c hc ⟨h1, h2⟩
    right
    have e7 := h1.1
    have hst := (hw.1 c hc).1
    obtain ⟨g1, g2, g4⟩ := h1
    obtain ⟨k1, k2, k3, k4, k5⟩ := g4 c hc
    have hcq : ¬ (c < n ∧ A.st c = 1 ∧ c < c) := fun z => by omega
    have z1 : (sayQ n c A).st c = A.st c := if_neg hcq
    have z2 : (sayQ n c A).sd c = A.sd c := if_neg hcq
    rw [z1] at k1 k5
    rw [z2] at k2
    by_cases y : A.st c = 1
    · obtain ⟨m1, m2⟩ := k5 y
      have hone := sayOne_ok (b := b) (A := A) (c := c) (by omega) ((hw.1 c hc).2.2.2 y).1 (hw.1 c hc).2.2.1 k2 k4 m1 m2
      rw [y] at k1
      have hy : c < n ∧ A.st c = 1 ∧ c < c + 1 := ⟨hc, y, by omega⟩
      have x1 : (sayQ n (c + 1) A).st c = sayS A c := if_pos hy
      have x2 : (sayQ n (c + 1) A).sd c = A.sd c + 1 := if_pos hy
      have hfr : fr (fun k j => (k = 81 ∨ k = 82) ∧ j = c) b (wr (wr b 82 c (nI (A.sd c + 1))) 81 c (nI (sayS A c))) := ((fr.refl _ _).wr (by omega)).wr (by omega)
      refine ⟨_, ?_, ⟨by rw [hfr _ _ (by omega)]; exact g1, by rw [hfr _ _ (by omega)]; exact g2, fun d hd => ?_⟩, h2.trans (hfr.mono (fun k j h => by unfold XcM; omega))⟩
      · rw [f_X11_goTick_L272]
        simp (disch := omega) only [md_n, lt_eq, bd_some, gN, gN2, le_T, le_F, lt_T, lt_F, eq_T, eq_F, cN, plus_n, mul_n, rem_n, div_n, sub_n, re_T, re_F, rl_wr, rd_wl, ne_m1, m1_ne, m1_lt, m1_le, m1_ge, m1_gt, m1_refl, ↓reduceIte, L0, L1, L2, L3, L4, L5, L6, L7, L8, L9, L10, L11, L15, L16, L17, L18, L20, L24, L26, L28, L31, L32, L35, L36, L48, L57, L59, L63, L64, L96, L97, L99, L100, L112, L122, L128, L200, L255, L256, L1000, L1024, L2000, L3000, L1000000, L1000000007, e7, k1, hone]
      · by_cases yd : d = c
        · subst yd
          rw [x1, x2]
          refine ⟨by rw [rw_eq], by rw [rw_ne (by omega), rw_eq], by rw [hfr _ _ (by omega)]; exact k3, by rw [hfr _ _ (by omega)]; exact k4, fun _ => ⟨by rw [hfr _ _ (by omega)]; exact m1, fun i hi => by rw [hfr _ _ (by omega)]; exact m2 i hi⟩⟩
        · have hsm : (d < n ∧ A.st d = 1 ∧ d < c + 1) = (d < n ∧ A.st d = 1 ∧ d < c) := propext ⟨fun h => ⟨h.1, h.2.1, by omega⟩, fun h => ⟨h.1, h.2.1, by omega⟩⟩
          have y1 : (sayQ n (c + 1) A).st d = (sayQ n c A).st d := by show (if _ then _ else _) = (if _ then _ else _); simp only [hsm]
          have y2 : (sayQ n (c + 1) A).sd d = (sayQ n c A).sd d := by show (if _ then _ else _) = (if _ then _ else _); simp only [hsm]
          rw [y1, y2]
          obtain ⟨v1, v2, v3, v4, v5⟩ := g4 d hd
          refine ⟨by rw [hfr _ _ (by omega)]; exact v1, by rw [hfr _ _ (by omega)]; exact v2, by rw [hfr _ _ (by omega)]; exact v3, by rw [hfr _ _ (by omega)]; exact v4, fun z => ?_⟩
          obtain ⟨t1, t2⟩ := v5 z
          exact ⟨by rw [hfr _ _ (by omega)]; exact t1, fun i hi => by rw [hfr _ _ (by omega)]; exact t2 i hi⟩
    · have heq : sayQ n (c + 1) A = sayQ n c A := by
        have : ∀ d, (d < n ∧ A.st d = 1 ∧ d < c + 1) = (d < n ∧ A.st d = 1 ∧ d < c) := fun d => propext ⟨fun h => ⟨h.1, h.2.1, by
          have : d ≠ c := fun z => y (by rw [← z]; exact h.2.1)
          omega⟩, fun h => ⟨h.1, h.2.1, by omega⟩⟩
        unfold sayQ
        simp only [this]
      refine ⟨b, ?_, by rw [heq]; exact ⟨g1, g2, g4⟩, h2⟩
      rw [f_X11_goTick_L272]
      simp (disch := omega) only [md_n, lt_eq, bd_some, gN, gN2, le_T, le_F, lt_T, lt_F, eq_T, eq_F, cN, plus_n, mul_n, rem_n, div_n, sub_n, re_T, re_F, rl_wr, rd_wl, ne_m1, m1_ne, m1_lt, m1_le, m1_ge, m1_gt, m1_refl, ↓reduceIte, L0, L1, L2, L3, L4, L5, L6, L7, L8, L9, L10, L11, L15, L16, L17, L18, L20, L24, L26, L28, L31, L32, L35, L36, L48, L57, L59, L63, L64, L96, L97, L99, L100, L112, L122, L128, L200, L255, L256, L1000, L1024, L2000, L3000, L1000000, L1000000007, e7, k1]
  · have : sayQ n 0 A = A := by
      have : ∀ d, (d < n ∧ A.st d = 1 ∧ d < 0) = False := fun d => eq_false (by omega)
      unfold sayQ
      simp only [this, if_false]
      rfl
    rw [this]; exact hR
