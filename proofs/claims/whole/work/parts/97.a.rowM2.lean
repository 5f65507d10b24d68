theorem lg_nn {n : Nat} (h : n < 7625597484987) : ¬ (lg_cmp (lN n) 0 < 0) := by
  unfold lg_cmp
  by_cases c : lN n > 0
  · rw [if_pos c]; decide
  · rw [if_neg c]
    by_cases d : lN n = 0
    · rw [if_pos d]; decide
    · exfalso
      have h0 : (0 : Int64) = lN 0 := rfl
      rw [h0, pk_lEQ (by omega) (by omega)] at d
      exact c (show lN 0 < lN n from (pk_lLT (by omega) (by omega)).mpr (by omega))
def Xy (w c j : Nat) : Prop := (c = 54 ∧ 14 ≤ j ∧ j ≤ 19) ∨ (c = 66 ∧ w + 2 ≤ j ∧ j < w + 11)
theorem isRow_ok {a : St} {B : Nat → Nat} {N p w : Nat} (hT : TxtM a B N) (hp : p ≤ N) (h14 : rd a 54 14 = nI p) (hw : w + 11 ≤ 110) :
    ∃ a', ((∃ l, sndS B N p = some l ∧ f_X11_isRow (nI w) a = some (1, a') ∧ ldM B N (tE B N p) a' ∧ rd a' 66 (w + 2) = nI l.length ∧ ∀ i, i < l.length → rd a' 66 (w + 3 + i) = nI (l.getD i 0)) ∨ (sndS B N p = none ∧ f_X11_isRow (nI w) a = some (0, a') ∧ rd a' 54 19 = nI (tB B N p))) ∧ fr (Xy w) a a' := by
  obtain ⟨y1, y2, y3, y4, y5, y6, y7, y8, y9, y10⟩ := tok_facts B hp
  obtain ⟨a1, o1, ⟨o2, o3, o4, o5⟩, o6⟩ := nextToken_ok hT hp h14
  have f1 : fr (Xy w) a a1 := o6.mono (fun c j h => by unfold Xn at h; unfold Xy; omega)
  have hfail : ∀ b, rd b 54 15 = nI (tB B N p) → (bd_ (f_X11_fails b) fun r5 S6 => gd_ (bz r5) <| some (r5, S6)) = some (0, wr b 54 19 (nI (tB B N p))) := fun b hb => by rw [fails_ok hb, bd_some, gd_t (Or.inl rfl)]
  have hneg : sndS B N p = none → lg_cmp (tokV B N p) 0 < 0 → ∃ a', ((∃ l, sndS B N p = some l ∧ f_X11_isRow (nI w) a = some (1, a') ∧ ldM B N (tE B N p) a' ∧ rd a' 66 (w + 2) = nI l.length ∧ ∀ i, i < l.length → rd a' 66 (w + 3 + i) = nI (l.getD i 0)) ∨ (sndS B N p = none ∧ f_X11_isRow (nI w) a = some (0, a') ∧ rd a' 54 19 = nI (tB B N p))) ∧ fr (Xy w) a a' := fun hs hlt => by
    refine ⟨wr a1 54 19 (nI (tB B N p)), Or.inr ⟨hs, ?_, rw_eq⟩, f1.wr (by unfold Xy; omega)⟩
    unfold f_X11_isRow
    rw [o1, bd_some, lt_eq, lt_eq, o4, if_pos hlt]
    exact hfail a1 o2
  rcases tokV_cases hp with ⟨k, e⟩ | ⟨k, -, e⟩ | ⟨k, -, e⟩ | ⟨k, -, -, e⟩ | ⟨k, -, e⟩ | ⟨k, -, e⟩ | ⟨k, k9, n, kn, e⟩ | ⟨k, k9, e⟩
  · exact hneg (if_neg (fun z => absurd (k.symm.trans z.1) (by decide))) (by rw [e]; decide)
  · exact hneg (if_neg (fun z => by have := z.1; have := z.2.1; omega)) (by rw [e]; decide)
  · exact hneg (if_neg (fun z => by have := z.1; have := z.2.1; omega)) (by rw [e]; decide)
  · exact hneg (if_neg (fun z => by have := z.1; have := z.2.1; omega)) (by rw [e]; decide)
  · exact hneg (if_neg (fun z => by have := z.1; have := z.2.1; omega)) (by rw [e]; decide)
  · exact hneg (if_neg (fun z => by have := z.1; have := z.2.1; omega)) (by rw [e]; decide)
  · obtain ⟨y11, y12⟩ := y10 (Or.inl k)
    have hN := hT.1
    unfold f_X11_isRow
    rw [o1, bd_some, lt_eq, lt_eq, o4, if_neg (by rw [e]; exact lg_nn kn), o3, o2, sub_n y3]
    by_cases d : tE B N p - tB B N p ≤ 8
    · rw [if_pos (show nI (tE B N p - tB B N p) ≤ (8 : Int32) from of_eq_true (le_T (b := 8) (by omega)))]
      have hT1 : TxtM a1 B N := hT.cg (o6 _ _ (by unfold Xn; omega)) (o6 _ _ (by unfold Xn; omega)) (fun j => o6 _ _ (by unfold Xn; omega)) (fun j => o6 _ _ (by unfold Xn; omega))
      refine loopC (fun f (b : St) i => f_X11_isRow_L36 _ _ (nI w) (nI (tE B N p - tB B N p)) f (nI i) b) (fun y => ∃ a', ((∃ l, sndS B N p = some l ∧ y = some (1, a') ∧ ldM B N (tE B N p) a' ∧ rd a' 66 (w + 2) = nI l.length ∧ ∀ i, i < l.length → rd a' 66 (w + 3 + i) = nI (l.getD i 0)) ∨ (sndS B N p = none ∧ y = some (0, a') ∧ rd a' 54 19 = nI (tB B N p))) ∧ fr (Xy w) a a')
        (fun i b => (∀ x, x < i → B (tB B N p + x) ≤ 112 ∧ rd b 66 (w + 3 + x) = nI (B (tB B N p + x) - 97)) ∧ fr (fun c j => c = 66 ∧ w + 3 ≤ j ∧ j < w + 11) a1 b) (tE B N p - tB B N p) ?_ ?_ (tE B N p - tB B N p) 0 FU a1 (by omega) (by unfold FU; omega) ⟨fun x hx => by omega, fr.refl _ _⟩
      · intro f b ⟨w3, w4⟩
        have hs : sndS B N p = some (ltrs B (tB B N p) (tE B N p - tB B N p)) := if_pos ⟨k, d, fun i hi => (w3 i hi).1⟩
        generalize hb2 : wr b 66 (w + 2) (nI (tE B N p - tB B N p)) = b2
        have g2 : fr (fun c j => c = 66 ∧ w + 2 ≤ j ∧ j < w + 11) a1 b2 := by rw [← hb2]; exact (w4.mono (fun c j h => by omega)).wr (by omega)
        have hT2 : TxtM b2 B N := hT1.cg (g2 _ _ (by omega)) (g2 _ _ (by omega)) (fun j => g2 _ _ (by omega)) (fun j => g2 _ _ (by omega))
        obtain ⟨a3, u1, u2, u3⟩ := nextToken_ok hT2 y4 (by rw [g2 _ _ (by omega)]; exact o3)
        refine ⟨a3, Or.inl ⟨_, hs, ?_, u2, ?_, fun i hi => ?_⟩, (f1.trans (g2.mono (fun c j h => by unfold Xy; omega))).trans (u3.mono (fun c j h => by unfold Xn at h; unfold Xy; omega))⟩
        · show f_X11_isRow_L36 _ _ _ _ _ _ _ = _
          rw [f_X11_isRow_L36, if_pos (Int32.le_refl _), show nI w + (2 : Int32) = nI (w + 2) from plus_n w 2, gd_t (inb_n (by omega) (by decide)), cl_n (by omega), lt_eq, hb2, u1, bd_some]
        · rw [ltrs_len, u3 _ _ (by unfold Xn; omega), ← hb2, rw_eq]
        · rw [ltrs_len] at hi
          rw [ltrs_get _ _ _ _ hi, u3 _ _ (by unfold Xn; omega), ← hb2, rw_ne (by omega)]; exact (w3 i hi).2
      · intro f b i hi ⟨w3, w4⟩
        have hb := hT1.2.2.2 (tB B N p + i) (by omega)
        have e1 : rd b 65 (tB B N p + i) = nI (B (tB B N p + i)) := by rw [w4 _ _ (by omega)]; exact hb.2.2
        have e15 : rd b 54 15 = nI (tB B N p) := by rw [w4 _ _ (by omega)]; exact o2
        have hb256 := hb.1
        have hki : 97 ≤ B (tB B N p + i) := by
          have := y12 (tB B N p + i) (by omega) (by omega)
          rw [k] at this
          have := kd_cases (B (tB B N p + i))
          omega
        by_cases dd : B (tB B N p + i) ≤ 112
        · right
          refine ⟨wr b 66 (w + 3 + i) (nI (B (tB B N p + i) - 97)), ?_, fun x hx => ?_, w4.wr (by omega)⟩
          · show f_X11_isRow_L36 _ _ _ _ _ _ _ = _
            rw [f_X11_isRow_L36]
            simp (disch := omega) only [md_n, lt_eq, bd_some, gN, gN2, le_T, le_F, lt_T, lt_F, eq_T, eq_F, cN, plus_n, mul_n, rem_n, div_n, sub_n, re_T, re_F, rl_wr, rd_wl, ne_m1, m1_ne, m1_lt, m1_le, m1_ge, m1_gt, m1_refl, ↓reduceIte, L0, L1, L2, L3, L4, L5, L6, L7, L8, L9, L10, L11, L15, L16, L17, L18, L20, L24, L26, L28, L31, L32, L35, L36, L48, L57, L59, L63, L64, L96, L97, L99, L100, L112, L122, L128, L200, L255, L256, L1000, L1024, L2000, L3000, L1000000, L1000000007, e15, e1]
          · by_cases c : x = i
            · subst c
              rw [rw_eq]; exact ⟨dd, rfl⟩
            · rw [rw_ne (by omega)]; exact w3 x (by omega)
        · left
          have hs : sndS B N p = none := if_neg (fun z => dd (z.2.2 i hi))
          refine ⟨wr b 54 19 (nI (tB B N p)), Or.inr ⟨hs, ?_, rw_eq⟩, (f1.trans (w4.mono (fun c j h => by unfold Xy; omega))).wr (by unfold Xy; omega)⟩
          show f_X11_isRow_L36 _ _ _ _ _ _ _ = _
          rw [f_X11_isRow_L36]
          simp (disch := omega) only [md_n, lt_eq, bd_some, gN, gN2, le_T, le_F, lt_T, lt_F, eq_T, eq_F, cN, plus_n, mul_n, rem_n, div_n, sub_n, re_T, re_F, rl_wr, rd_wl, ne_m1, m1_ne, m1_lt, m1_le, m1_ge, m1_gt, m1_refl, ↓reduceIte, L0, L1, L2, L3, L4, L5, L6, L7, L8, L9, L10, L11, L15, L16, L17, L18, L20, L24, L26, L28, L31, L32, L35, L36, L48, L57, L59, L63, L64, L96, L97, L99, L100, L112, L122, L128, L200, L255, L256, L1000, L1024, L2000, L3000, L1000000, L1000000007, -L0, e15, e1]
          exact hfail b e15
    · rw [if_neg (show ¬ nI (tE B N p - tB B N p) ≤ (8 : Int32) from of_eq_false (le_F (b := 8) (by omega)))]
      exact ⟨wr a1 54 19 (nI (tB B N p)), Or.inr ⟨if_neg (fun z => d z.2.1), hfail a1 o2, rw_eq⟩, f1.wr (by unfold Xy; omega)⟩
  · exact hneg (if_neg (fun z => by have := z.1; have := z.2.1; omega)) (by rw [e]; decide)
def p32 (x : Nat) : Nat := if x = 100 then 32 else x
theorem partsM_ok {B : Nat → Nat} {N w : Nat} (hw : w + 11 ≤ 110) (K1 : St → Option (Int32 × St)) (K2 : Int32 → St → Option (Int32 × St)) : ∀ (r s p : Nat) (a : St) (f : Nat), s + r = 8 → p ≤ N → r < f → TxtM a B N → ldM B N p a →
    ∃ a', ((term B N p = true ∧ a' = a ∧ f_X11_areParts_L6 K1 K2 (nI w) f (nI s) a = K2 (nI s) a) ∨ (term B N p = false ∧ ((∃ ft, partsT B N r p = .inl ft ∧ ((f_X11_areParts_L6 K1 K2 (nI w) f (nI s) a = K1 a' ∧ rd a' 54 15 = nI ft) ∨ (∃ s' q, f_X11_areParts_L6 K1 K2 (nI w) f (nI s) a = K2 (nI s') a' ∧ s ≤ s' ∧ s' ≤ 8 ∧ q ≤ N ∧ ldM B N q a' ∧ term B N q = false ∧ tB B N q = ft))) ∨
      (∃ l q, partsT B N r p = .inr (l, q) ∧ f_X11_areParts_L6 K1 K2 (nI w) f (nI s) a = K2 (nI (s + l.length)) a' ∧ 1 ≤ l.length ∧ s + l.length ≤ 8 ∧ q ≤ N ∧ ldM B N q a' ∧ term B N q = true ∧ ∀ i, i < l.length → rd a' 66 (w + 3 + (s + i)) = nI (p32 (l.getD i 0)))))) ∧ fr (fun c j => (c = 54 ∧ 14 ≤ j ∧ j ≤ 18) ∨ (c = 66 ∧ w + 3 + s ≤ j ∧ j < w + 11)) a a' := by
  intro r
  induction r with
  | zero =>
    intro s p a f hs hp hf0 hT hl
    obtain ⟨f, rfl⟩ : ∃ g, f = g + 1 := ⟨f - 1, by omega⟩
    obtain ⟨o2, o3, o4, o5⟩ := hl
    have hs8 : s = 8 := by omega
    subst hs8
    refine ⟨a, ?_, fr.refl _ _⟩
    by_cases c : tokV B N p = -1 ∨ tokV B N p = -5
    · right
      have htf : term B N p = false := by
        rw [Bool.eq_false_iff]
        intro z
        unfold term at z
        rw [Bool.or_eq_true, Bool.and_eq_true] at z
        have := tokV_end (B := B) hp
        rcases z with z | ⟨z1, z2⟩
        · have z' := this.1.mpr (of_decide_eq_true z); rw [z'] at c; exact absurd c (by decide)
        · have z' := this.2.mpr ⟨of_decide_eq_true z1, of_decide_eq_true z2⟩; rw [z'] at c; exact absurd c (by decide)
      refine ⟨htf, Or.inl ⟨tB B N p, rfl, Or.inl ⟨?_, o2⟩⟩⟩
      rw [f_X11_areParts_L6]
      by_cases d : tokV B N p = -1
      · have q1 : (lg_cmp (rl a 54 16) (-1 : Int64) = nI 0) = True := eq_true (lg0.mpr (by rw [o4]; exact d))
        simp (disch := omega) only [md_n, lt_eq, bd_some, gN, gN2, le_T, le_F, lt_T, lt_F, eq_T, eq_F, cN, plus_n, mul_n, rem_n, div_n, sub_n, re_T, re_F, rl_wr, rd_wl, ne_m1, m1_ne, m1_lt, m1_le, m1_ge, m1_gt, m1_refl, ↓reduceIte, L0, L1, L2, L3, L4, L5, L6, L7, L8, L9, L10, L11, L15, L16, L17, L18, L20, L24, L26, L28, L31, L32, L35, L36, L48, L57, L59, L63, L64, L96, L97, L99, L100, L112, L122, L128, L200, L255, L256, L1000, L1024, L2000, L3000, L1000000, L1000000007, q1]
      · have q1 : (lg_cmp (rl a 54 16) (-1 : Int64) = nI 0) = False := eq_false (fun z => d (by rw [← o4]; exact lg0.mp z))
        have q5 : (lg_cmp (rl a 54 16) (-5 : Int64) = nI 0) = True := eq_true (lg0.mpr (by rw [o4]; exact c.resolve_left d))
        simp (disch := omega) only [md_n, lt_eq, bd_some, gN, gN2, le_T, le_F, lt_T, lt_F, eq_T, eq_F, cN, plus_n, mul_n, rem_n, div_n, sub_n, re_T, re_F, rl_wr, rd_wl, ne_m1, m1_ne, m1_lt, m1_le, m1_ge, m1_gt, m1_refl, ↓reduceIte, L0, L1, L2, L3, L4, L5, L6, L7, L8, L9, L10, L11, L15, L16, L17, L18, L20, L24, L26, L28, L31, L32, L35, L36, L48, L57, L59, L63, L64, L96, L97, L99, L100, L112, L122, L128, L200, L255, L256, L1000, L1024, L2000, L3000, L1000000, L1000000007, q1, q5]
    · have hK2 : f_X11_areParts_L6 K1 K2 (nI w) (f + 1) (nI 8) a = K2 (nI 8) a := by
        have q1 : (lg_cmp (rl a 54 16) (-1 : Int64) = nI 0) = False := eq_false (fun z => c (Or.inl (by rw [← o4]; exact lg0.mp z)))
        have q5 : (lg_cmp (rl a 54 16) (-5 : Int64) = nI 0) = False := eq_false (fun z => c (Or.inr (by rw [← o4]; exact lg0.mp z)))
        rw [f_X11_areParts_L6]
        simp (disch := omega) only [md_n, lt_eq, bd_some, gN, gN2, le_T, le_F, lt_T, lt_F, eq_T, eq_F, cN, plus_n, mul_n, rem_n, div_n, sub_n, re_T, re_F, rl_wr, rd_wl, ne_m1, m1_ne, m1_lt, m1_le, m1_ge, m1_gt, m1_refl, ↓reduceIte, L0, L1, L2, L3, L4, L5, L6, L7, L8, L9, L10, L11, L15, L16, L17, L18, L20, L24, L26, L28, L31, L32, L35, L36, L48, L57, L59, L63, L64, L96, L97, L99, L100, L112, L122, L128, L200, L255, L256, L1000, L1024, L2000, L3000, L1000000, L1000000007, q1, q5]
      cases ht : term B N p
      · right
        exact ⟨rfl, Or.inl ⟨tB B N p, rfl, Or.inr ⟨8, p, hK2, by omega, by omega, hp, ⟨o2, o3, o4, o5⟩, ht, rfl⟩⟩⟩
      · left; exact ⟨rfl, rfl, hK2⟩
  | succ r ih =>
    intro s p a f hs hp hf0 hT hl
    obtain ⟨f, rfl⟩ : ∃ g, f = g + 1 := ⟨f - 1, by omega⟩
    have hl0 := hl
    obtain ⟨o2, o3, o4, o5⟩ := hl
    obtain ⟨y1, y2, y3, y4, -⟩ := tok_facts B hp
    by_cases c : tokV B N p = -1 ∨ tokV B N p = -5
    · have htf : term B N p = false := by
        rw [Bool.eq_false_iff]
        intro z
        unfold term at z
        rw [Bool.or_eq_true, Bool.and_eq_true] at z
        have := tokV_end (B := B) hp
        rcases z with z | ⟨z1, z2⟩
        · have z' := this.1.mpr (of_decide_eq_true z); rw [z'] at c; exact absurd c (by decide)
        · have z' := this.2.mpr ⟨of_decide_eq_true z1, of_decide_eq_true z2⟩; rw [z'] at c; exact absurd c (by decide)
      -- a good part
      have hgo : ∀ x, prt B N p = some x → x ≤ 100 → f_X11_areParts_L6 K1 K2 (nI w) (f + 1) (nI s) a = bd_ (f_X11_nextToken (wr a 66 (w + 3 + s) (nI (p32 x)))) (fun r15 S16 => f_X11_areParts_L6 K1 K2 (nI w) f (nI (s + 1)) S16) → ∃ a', ((term B N p = true ∧ a' = a ∧ f_X11_areParts_L6 K1 K2 (nI w) (f + 1) (nI s) a = K2 (nI s) a) ∨ (term B N p = false ∧ ((∃ ft, partsT B N (r + 1) p = .inl ft ∧ ((f_X11_areParts_L6 K1 K2 (nI w) (f + 1) (nI s) a = K1 a' ∧ rd a' 54 15 = nI ft) ∨ (∃ s' q, f_X11_areParts_L6 K1 K2 (nI w) (f + 1) (nI s) a = K2 (nI s') a' ∧ s ≤ s' ∧ s' ≤ 8 ∧ q ≤ N ∧ ldM B N q a' ∧ term B N q = false ∧ tB B N q = ft))) ∨
      (∃ l q, partsT B N (r + 1) p = .inr (l, q) ∧ f_X11_areParts_L6 K1 K2 (nI w) (f + 1) (nI s) a = K2 (nI (s + l.length)) a' ∧ 1 ≤ l.length ∧ s + l.length ≤ 8 ∧ q ≤ N ∧ ldM B N q a' ∧ term B N q = true ∧ ∀ i, i < l.length → rd a' 66 (w + 3 + (s + i)) = nI (p32 (l.getD i 0)))))) ∧ fr (fun c j => (c = 54 ∧ 14 ≤ j ∧ j ≤ 18) ∨ (c = 66 ∧ w + 3 + s ≤ j ∧ j < w + 11)) a a' := by
        intro x hpr hx100 hstep
        generalize hb2 : wr a 66 (w + 3 + s) (nI (p32 x)) = b2 at *
        have g2 : fr (fun c j => c = 66 ∧ j = w + 3 + s) a b2 := by rw [← hb2]; exact (fr.refl _ _).wr (by omega)
        have hT2 : TxtM b2 B N := hT.cg (g2 _ _ (by omega)) (g2 _ _ (by omega)) (fun j => g2 _ _ (by omega)) (fun j => g2 _ _ (by omega))
        obtain ⟨a3, u1, u2, u3⟩ := nextToken_ok hT2 y4 (by rw [g2 _ _ (by omega)]; exact o3)
        have hT3 : TxtM a3 B N := hT2.cg (u3 _ _ (by unfold Xn; omega)) (u3 _ _ (by unfold Xn; omega)) (fun j => u3 _ _ (by unfold Xn; omega)) (fun j => u3 _ _ (by unfold Xn; omega))
        rw [u1, bd_some] at hstep
        have hit : rd a3 66 (w + 3 + s) = nI (p32 x) := by rw [u3 _ _ (by unfold Xn; omega), ← hb2, rw_eq]
        have hf3 : fr (fun c j => (c = 54 ∧ 14 ≤ j ∧ j ≤ 18) ∨ (c = 66 ∧ w + 3 + s ≤ j ∧ j < w + 11)) a a3 := (g2.mono (fun c j h => by omega)).trans (u3.mono (fun c j h => by unfold Xn at h; omega))
        obtain ⟨a4, q1, q2⟩ := ih (s + 1) (tE B N p) a3 f (by omega) y4 (by omega) hT3 u2
        have hf4 := hf3.trans (q2.mono (fun c j h => by omega))
        refine ⟨a4, Or.inr ⟨htf, ?_⟩, hf4⟩
        rcases q1 with ⟨ht, rfl, p2⟩ | ⟨ht, p1⟩
        · right
          have hT1 : partsT B N (r + 1) p = .inr ([x], tE B N p) := by rw [partsT, hpr]; show (if _ then _ else _) = _; rw [ht, if_pos rfl]
          refine ⟨[x], tE B N p, hT1, by rw [hstep, p2]; rfl, Nat.le_refl 1, by show s + 1 ≤ 8; omega, y4, u2, ht, fun i hi => ?_⟩
          have : i = 0 := by simp at hi; omega
          subst this; exact hit
        · have hTl : ∀ ft, partsT B N r (tE B N p) = .inl ft → partsT B N (r + 1) p = .inl ft := fun ft h => by rw [partsT, hpr]; show (if _ then _ else _) = _; rw [ht, if_neg (by decide), h]
          have hTr : ∀ l q, partsT B N r (tE B N p) = .inr (l, q) → partsT B N (r + 1) p = .inr (x :: l, q) := fun l q h => by rw [partsT, hpr]; show (if _ then _ else _) = _; rw [ht, if_neg (by decide), h]
          rcases p1 with ⟨ft, p1, p2⟩ | ⟨l, q, p1, p2, p3, p4, p5, p6, p7, p8⟩
          · left
            refine ⟨ft, hTl ft p1, ?_⟩
            rcases p2 with ⟨p2, p3⟩ | ⟨s', q, p2, p3, p4, p5⟩
            · exact Or.inl ⟨by rw [hstep]; exact p2, p3⟩
            · exact Or.inr ⟨s', q, by rw [hstep]; exact p2, by omega, p4, p5⟩
          · right
            refine ⟨x :: l, q, hTr l q p1, by rw [hstep, p2, List.length_cons, show s + 1 + l.length = s + (l.length + 1) by omega], by rw [List.length_cons]; omega, by rw [List.length_cons]; omega, p5, p6, p7, fun i hi => ?_⟩
            cases i with
            | zero => rw [Nat.add_zero, q2 _ _ (by omega)]; exact hit
            | succ i =>
              have := p8 i (by simp at hi; omega)
              rw [show s + (i + 1) = s + 1 + i by omega]; exact this
      have hn8 : ¬ nI s = (8 : Int32) := of_eq_false (eq_F (b := 8) (by omega))
      by_cases d : tokV B N p = -1
      · obtain ⟨v, hv⟩ := (tokV_num hp).mp d
        have hv99 := num_le hp hv
        have e18 : rd a 54 18 = nI v := by
          have hv' := hv
          unfold num at hv'
          split at hv'
          · next c => rw [o5 c.1 c.2]; exact congrArg nI (Option.some.inj hv')
          · cases hv'
        have hnh : hash B N p = false := by
          rw [Bool.eq_false_iff]
          intro z
          have := (tokV_hash hp).mpr z
          rw [d] at this; exact absurd this (by decide)
        by_cases d2 : v ≤ 31
        · have hpr : prt B N p = some v := by unfold prt; rw [hnh, if_neg (by decide)]; exact numB_some.mpr ⟨hv, by omega⟩
          apply hgo v hpr (by omega)
          have hp32 : p32 v = v := if_neg (by omega)
          have q1 : (lg_cmp (rl a 54 16) (-1 : Int64) = nI 0) = True := eq_true (lg0.mpr (by rw [o4]; exact d))
          rw [hp32, f_X11_areParts_L6]
          simp (disch := omega) only [md_n, lt_eq, bd_some, gN, gN2, le_T, le_F, lt_T, lt_F, eq_T, eq_F, cN, plus_n, mul_n, rem_n, div_n, sub_n, re_T, re_F, rl_wr, rd_wl, ne_m1, m1_ne, m1_lt, m1_le, m1_ge, m1_gt, m1_refl, ↓reduceIte, L0, L1, L2, L3, L4, L5, L6, L7, L8, L9, L10, L11, L15, L16, L17, L18, L20, L24, L26, L28, L31, L32, L35, L36, L48, L57, L59, L63, L64, L96, L97, L99, L100, L112, L122, L128, L200, L255, L256, L1000, L1024, L2000, L3000, L1000000, L1000000007, q1, e18]
        · have hpr : prt B N p = none := by unfold prt; rw [hnh, if_neg (by decide)]; unfold numB; rw [hv]; exact if_neg (by omega)
          refine ⟨a, Or.inr ⟨htf, Or.inl ⟨tB B N p, by rw [partsT, hpr], Or.inl ⟨?_, o2⟩⟩⟩, fr.refl _ _⟩
          have q1 : (lg_cmp (rl a 54 16) (-1 : Int64) = nI 0) = True := eq_true (lg0.mpr (by rw [o4]; exact d))
          rw [f_X11_areParts_L6]
          simp (disch := omega) only [md_n, lt_eq, bd_some, gN, gN2, le_T, le_F, lt_T, lt_F, eq_T, eq_F, cN, plus_n, mul_n, rem_n, div_n, sub_n, re_T, re_F, rl_wr, rd_wl, ne_m1, m1_ne, m1_lt, m1_le, m1_ge, m1_gt, m1_refl, ↓reduceIte, L0, L1, L2, L3, L4, L5, L6, L7, L8, L9, L10, L11, L15, L16, L17, L18, L20, L24, L26, L28, L31, L32, L35, L36, L48, L57, L59, L63, L64, L96, L97, L99, L100, L112, L122, L128, L200, L255, L256, L1000, L1024, L2000, L3000, L1000000, L1000000007, q1, e18]
      · have d5 := c.resolve_left d
        have hpr : prt B N p = some 100 := by unfold prt; rw [(tokV_hash hp).mp d5, if_pos rfl]
        apply hgo 100 hpr (by omega)
        have q1 : (lg_cmp (rl a 54 16) (-1 : Int64) = nI 0) = False := eq_false (fun z => d (by rw [← o4]; exact lg0.mp z))
        have q5 : (lg_cmp (rl a 54 16) (-5 : Int64) = nI 0) = True := eq_true (lg0.mpr (by rw [o4]; exact d5))
        rw [show p32 100 = 32 from rfl, f_X11_areParts_L6]
        simp (disch := omega) only [md_n, lt_eq, bd_some, gN, gN2, le_T, le_F, lt_T, lt_F, eq_T, eq_F, cN, plus_n, mul_n, rem_n, div_n, sub_n, re_T, re_F, rl_wr, rd_wl, ne_m1, m1_ne, m1_lt, m1_le, m1_ge, m1_gt, m1_refl, ↓reduceIte, L0, L1, L2, L3, L4, L5, L6, L7, L8, L9, L10, L11, L15, L16, L17, L18, L20, L24, L26, L28, L31, L32, L35, L36, L48, L57, L59, L63, L64, L96, L97, L99, L100, L112, L122, L128, L200, L255, L256, L1000, L1024, L2000, L3000, L1000000, L1000000007, q1, q5]
    · have hK2 : f_X11_areParts_L6 K1 K2 (nI w) (f + 1) (nI s) a = K2 (nI s) a := by
        have q1 : (lg_cmp (rl a 54 16) (-1 : Int64) = nI 0) = False := eq_false (fun z => c (Or.inl (by rw [← o4]; exact lg0.mp z)))
        have q5 : (lg_cmp (rl a 54 16) (-5 : Int64) = nI 0) = False := eq_false (fun z => c (Or.inr (by rw [← o4]; exact lg0.mp z)))
        rw [f_X11_areParts_L6]
        simp (disch := omega) only [md_n, lt_eq, bd_some, gN, gN2, le_T, le_F, lt_T, lt_F, eq_T, eq_F, cN, plus_n, mul_n, rem_n, div_n, sub_n, re_T, re_F, rl_wr, rd_wl, ne_m1, m1_ne, m1_lt, m1_le, m1_ge, m1_gt, m1_refl, ↓reduceIte, L0, L1, L2, L3, L4, L5, L6, L7, L8, L9, L10, L11, L15, L16, L17, L18, L20, L24, L26, L28, L31, L32, L35, L36, L48, L57, L59, L63, L64, L96, L97, L99, L100, L112, L122, L128, L200, L255, L256, L1000, L1024, L2000, L3000, L1000000, L1000000007, q1, q5]
      refine ⟨a, ?_, fr.refl _ _⟩
      cases ht : term B N p
      · right
        have hpr : prt B N p = none := by
          unfold prt
          rw [if_neg (fun z => c (Or.inr ((tokV_hash hp).mpr z)))]
          unfold numB
          cases hn : num B N p with
          | none => rfl
          | some v => exact absurd (Or.inl ((tokV_num hp).mpr ⟨v, hn⟩)) c
        exact ⟨rfl, Or.inl ⟨tB B N p, by rw [partsT, hpr], Or.inr ⟨s, p, hK2, by omega, by omega, hp, hl0, ht, rfl⟩⟩⟩
      · left; exact ⟨rfl, rfl, hK2⟩
