theorem ltrs_len (B : Nat → Nat) (b : Nat) : ∀ k, (ltrs B b k).length = k := by
  intro k
  induction k with
  | zero => rfl
  | succ k ih => rw [ltrs, List.length_append, ih]; rfl
theorem ltrs_get (B : Nat → Nat) (b : Nat) : ∀ k x, x < k → (ltrs B b k).getD x 0 = B (b + x) - 97 := by
  intro k
  induction k with
  | zero => intro x hx; omega
  | succ k ih =>
    intro x hx
    rw [ltrs]
    by_cases c : x = k
    · subst c
      have := gA2 (L := ltrs B b x) (x := B (b + x) - 97)
      rw [ltrs_len] at this
      exact this
    · rw [gA1 (by rw [ltrs_len]; omega)]; exact ih x (by omega)
def Xr (n1 c j : Nat) : Prop := (c = 20 ∧ (j = 4 ∨ j = 5 ∨ j = 6)) ∨ c = 23 + n1 ∨ c = 33 + n1
theorem Xr_t {n1 : Nat} (h : n1 < 10) {S a b : St} (hf : fr Xt S a) (hr : fr (Xr n1) a b) : fr Xt S b := hf.trans (hr.mono (fun c j h => by unfold Xr at h; unfold Xt; omega))
theorem soundsC_ok {S a : St} {B : Nat → Nat} {N p n1 : Nat} (hT : Txt S B N) (hf : fr Xt S a) (hp : p ≤ N) (hn1 : n1 < 10) (hl : ldC B N p a) (h3 : rd a (23 + n1) 3 = nI 0) :
    ∃ a', ((∃ l, sndS B N p = some l ∧ f_X9_readSounds n1 a = some (1, a') ∧ ldC B N (tE B N p) a' ∧ rd a' (23 + n1) 3 = nI l.length ∧ ∀ i, i < l.length → rd a' (33 + n1) i = nI (l.getD i 0)) ∨ (sndS B N p = none ∧ f_X9_readSounds n1 a = some (0, a') ∧ rd a' 20 5 = nI (tB B N p))) ∧ fr (fun c j => (c = 20 ∧ (j = 4 ∨ j = 5 ∨ j = 6)) ∨ (c = 23 + n1 ∧ j = 3) ∨ c = 33 + n1) a a' := by
  have hT0 := hT
  obtain ⟨t1, t2, -, t4⟩ := hT
  obtain ⟨y1, y2, y3, y4, y5, y6, y7, y8, y9, y10⟩ := tok_facts B hp
  have hl0 := hl
  obtain ⟨l1, l2, l3⟩ := hl
  unfold f_X9_readSounds
  rw [l3, l2, l1, sub_n y3, lt_eq]
  by_cases k1 : tK B N p = 1
  · rw [if_pos (by rw [k1]; rfl)]
    by_cases d : tE B N p - tB B N p ≤ 8
    · rw [if_pos (show nI (tE B N p - tB B N p) ≤ (8 : Int32) from of_eq_true (le_T (b := 8) (by omega)))]
      obtain ⟨y11, y12⟩ := y10 (Or.inl k1)
      refine loopC (fun f (b : St) i => f_X9_readSounds_L29 _ _ n1 f (nI i) b) (fun y => ∃ a', ((∃ l, sndS B N p = some l ∧ y = some (1, a') ∧ ldC B N (tE B N p) a' ∧ rd a' (23 + n1) 3 = nI l.length ∧ ∀ i, i < l.length → rd a' (33 + n1) i = nI (l.getD i 0)) ∨ (sndS B N p = none ∧ y = some (0, a') ∧ rd a' 20 5 = nI (tB B N p))) ∧ fr (fun c j => (c = 20 ∧ (j = 4 ∨ j = 5 ∨ j = 6)) ∨ (c = 23 + n1 ∧ j = 3) ∨ c = 33 + n1) a a')
        (fun i b => tB B N p ≤ i ∧ rd b (23 + n1) 3 = nI (i - tB B N p) ∧ (∀ x, x < i - tB B N p → B (tB B N p + x) ≤ 112 ∧ rd b (33 + n1) x = nI (B (tB B N p + x) - 97)) ∧ fr (fun c j => (c = 23 + n1 ∧ j = 3) ∨ c = 33 + n1) a b) (tE B N p) ?_ ?_ (tE B N p - tB B N p) (tB B N p) FU a (by omega) (by unfold FU; omega) ⟨Nat.le_refl _, by rw [Nat.sub_self]; exact h3, fun x hx => by omega, fr.refl _ _⟩
      · intro f b ⟨w1, w2, w3, w4⟩
        have hs : sndS B N p = some (ltrs B (tB B N p) (tE B N p - tB B N p)) := if_pos ⟨k1, d, fun i hi => (w3 i hi).1⟩
        have e6 : rd b 20 6 = nI (tE B N p) := by rw [w4 _ _ (by omega)]; exact l2
        obtain ⟨a2, o1, o2, o3⟩ := step_ok (S := S) (a := b) hT0 (hf.trans (w4.mono (fun c j h => by unfold Xt; omega))) y4 e6
        refine ⟨a2, Or.inl ⟨_, hs, ?_, o2, ?_, fun i hi => ?_⟩, (w4.mono (fun c j h => Or.inr h)).trans (o3.mono (fun c j h => Or.inl h))⟩
        · show f_X9_readSounds_L29 _ _ _ _ _ _ = _
          rw [f_X9_readSounds_L29, e6, if_pos (Int32.le_refl _), o1, bd_some]
        · rw [ltrs_len, o3 _ _ (by omega)]; exact w2
        · rw [ltrs_len] at hi
          rw [ltrs_get _ _ _ _ hi, o3 _ _ (by omega)]; exact (w3 i hi).2
      · intro f b i hi ⟨w1, w2, w3, w4⟩
        have e6 : rd b 20 6 = nI (tE B N p) := by rw [w4 _ _ (by omega)]; exact l2
        have hb := t4 i (by omega)
        have e1 : rd b 21 i = nI (B i) := by rw [w4 _ _ (by omega), hf _ _ (by unfold Xt; omega)]; exact hb.2.1
        have hki : 97 ≤ B i := by
          have := y12 i w1 hi
          rw [k1] at this
          have := kd_cases (B i)
          omega
        by_cases dd : B i ≤ 112
        · right
          refine ⟨wr (wr b (33 + n1) (i - tB B N p) (nI (B i - 97))) (23 + n1) 3 (nI (i - tB B N p + 1)), ?_, by omega, by rw [rw_eq, show i + 1 - tB B N p = i - tB B N p + 1 by omega], fun x hx => ?_, (w4.wr (by omega)).wr (by omega)⟩
          · show f_X9_readSounds_L29 _ _ _ _ _ _ = _
            rw [f_X9_readSounds_L29]
            simp (disch := omega) only [md_n, lt_eq, bd_some, gN, gN2, le_T, le_F, lt_T, lt_F, eq_T, eq_F, cN, plus_n, mul_n, rem_n, div_n, sub_n, re_T, re_F, rl_wr, rd_wl, ne_m1, m1_ne, m1_lt, m1_le, m1_ge, m1_gt, m1_refl, ↓reduceIte, L0, L1, L2, L3, L4, L5, L6, L7, L8, L9, L10, L11, L15, L16, L17, L18, L20, L24, L26, L28, L31, L32, L35, L36, L48, L57, L59, L63, L64, L96, L97, L99, L100, L112, L122, L128, L200, L255, L256, L1000, L1024, L2000, L3000, L1000000, L1000000007, e6, e1, w2]
          · by_cases c : x = i - tB B N p
            · subst c
              rw [rw_ne (by omega), rw_eq, show tB B N p + (i - tB B N p) = i by omega]; exact ⟨dd, rfl⟩
            · rw [rw_ne (by omega), rw_ne (by omega)]; exact w3 x (by omega)
        · left
          have hs : sndS B N p = none := if_neg (fun z => by
            have := z.2.2 (i - tB B N p) (by omega)
            rw [show tB B N p + (i - tB B N p) = i by omega] at this
            exact dd this)
          refine ⟨b, Or.inr ⟨hs, ?_, by rw [w4 _ _ (by omega)]; exact l1⟩, w4.mono (fun c j h => Or.inr h)⟩
          show f_X9_readSounds_L29 _ _ _ _ _ _ = _
          rw [f_X9_readSounds_L29]
          simp (disch := omega) only [md_n, lt_eq, bd_some, gN, gN2, le_T, le_F, lt_T, lt_F, eq_T, eq_F, cN, plus_n, mul_n, rem_n, div_n, sub_n, re_T, re_F, rl_wr, rd_wl, ne_m1, m1_ne, m1_lt, m1_le, m1_ge, m1_gt, m1_refl, ↓reduceIte, L0, L1, L2, L3, L4, L5, L6, L7, L8, L9, L10, L11, L15, L16, L17, L18, L20, L24, L26, L28, L31, L32, L35, L36, L48, L57, L59, L63, L64, L96, L97, L99, L100, L112, L122, L128, L200, L255, L256, L1000, L1024, L2000, L3000, L1000000, L1000000007, e6, e1]
    · rw [if_neg (show ¬ nI (tE B N p - tB B N p) ≤ (8 : Int32) from of_eq_false (le_F (b := 8) (by omega)))]
      exact ⟨a, Or.inr ⟨if_neg (fun z => d z.2.1), rfl, l1⟩, fr.refl _ _⟩
  · rw [if_neg (show ¬ nI (tK B N p) = (1 : Int32) from of_eq_false (eq_F (b := 1) (by omega)))]
    exact ⟨a, Or.inr ⟨if_neg (fun z => k1 z.1), rfl, l1⟩, fr.refl _ _⟩
theorem partsC_ok {S : St} {B : Nat → Nat} {N n1 : Nat} (hT : Txt S B N) (hn1 : n1 < 10) : ∀ (r s p : Nat) (a : St) (f : Nat), s + r = 8 → p ≤ N → r < f → (r = 0 → term B N p = false) → fr Xt S a → ldC B N p a → rd a (23 + n1) 3 = nI s →
    ∃ a', ((∃ ft, partsT B N r p = .inl ft ∧ ((f_X9_readParts_L0 (fun S25 => some ((0 : Int32), S25)) (fun S26 => some ((1 : Int32), S26)) (fun S27 => some ((1 : Int32), S27)) n1 f a = some (0, a') ∧ rd a' 20 5 = nI ft) ∨ (f_X9_readParts_L0 (fun S25 => some ((0 : Int32), S25)) (fun S26 => some ((1 : Int32), S26)) (fun S27 => some ((1 : Int32), S27)) n1 f a = some (1, a') ∧ ∃ q, q ≤ N ∧ ldC B N q a' ∧ term B N q = false ∧ tB B N q = ft))) ∨
      (∃ l q, partsT B N r p = .inr (l, q) ∧ f_X9_readParts_L0 (fun S25 => some ((0 : Int32), S25)) (fun S26 => some ((1 : Int32), S26)) (fun S27 => some ((1 : Int32), S27)) n1 f a = some (1, a') ∧ q ≤ N ∧ ldC B N q a' ∧ term B N q = true ∧ rd a' (23 + n1) 3 = nI (s + l.length) ∧ s + l.length ≤ 8 ∧ ∀ i, i < l.length → rd a' (33 + n1) (s + i) = nI (l.getD i 0))) ∧
      (∀ i, i < s → rd a' (33 + n1) i = rd a (33 + n1) i) ∧ fr (fun c j => (c = 20 ∧ (j = 4 ∨ j = 5 ∨ j = 6)) ∨ (c = 23 + n1 ∧ j = 3) ∨ c = 33 + n1) a a' := by
  intro r
  induction r with
  | zero =>
    intro s p a f hs hp hf0 hr hf hl h3
    obtain ⟨f, rfl⟩ : ∃ g, f = g + 1 := ⟨f - 1, by omega⟩
    refine ⟨a, Or.inl ⟨tB B N p, rfl, Or.inr ⟨?_, p, hp, hl, hr rfl, rfl⟩⟩, fun i hi => rfl, fr.refl _ _⟩
    rw [f_X9_readParts_L0, h3, if_pos (show (8 : Int32) ≤ nI s from of_eq_true (le_T (a := 8) (by omega)))]
  | succ r ih =>
    intro s p a f hs hp hf0 _ hf hl h3
    obtain ⟨f, rfl⟩ : ∃ g, f = g + 1 := ⟨f - 1, by omega⟩
    obtain ⟨y1, y2, y3, y4, -⟩ := tok_facts B hp
    have hsg := signC_ok (x := 35) hT hf hp (by omega) hl
    have hnum := numberC_ok hT hf hp hl
    -- what a good part leads to
    have hgood : ∀ x, prt B N p = some x → x ≤ 100 → f_X9_readParts_L0 (fun S25 => some ((0 : Int32), S25)) (fun S26 => some ((1 : Int32), S26)) (fun S27 => some ((1 : Int32), S27)) n1 (f + 1) a = (lt_ (wr a (33 + n1) s (nI x)) fun S9 => lt_ (wr S9 (23 + n1) 3 ((rd S9 (23 + n1) 3) + (1 : Int32))) fun S11 =>
              bd_ (f_X9_step  S11) fun r12 S13 =>
              if (rd S13 20 4) = 0 then
                some ((1 : Int32), S13)
              else
                bd_ (f_X9_isSign (59 : Int32) S13) fun r15 S16 =>
                if r15 = 0 then
                  f_X9_readParts_L0 (fun S25 => some ((0 : Int32), S25)) (fun S26 => some ((1 : Int32), S26)) (fun S27 => some ((1 : Int32), S27)) n1 f  S16
                else
                  some ((1 : Int32), S16)) := by
      intro x hx hx100
      rw [f_X9_readParts_L0, h3, if_neg (show ¬ (8 : Int32) ≤ nI s from of_eq_false (le_F (a := 8) (by omega))), show f_X9_isSign 35 a = _ from hsg, bd_some]
      refine (lt_eq _ _).trans ?_
      unfold prt hash at hx
      cases hh : (decide (tK B N p = 3) && decide (B (tB B N p) = 35))
      · rw [hh, if_neg (by decide)] at hx
        obtain ⟨hx1, hx2⟩ := numB_some.mp hx
        have hnum' : f_X9_number a = some (nI x, a) := by rw [hnum, hx1]
        rw [if_pos (by decide), hnum', bd_some]
        refine (lt_eq _ _).trans ?_
        show (if nI x = (100 : Int32) then _ else _) = _
        rw [if_neg (show ¬ nI x = (100 : Int32) from of_eq_false (eq_F (b := 100) (by omega))), show f_X10_below (nI x) 32 a = _ from belowv (v := x) (b := 32) (by omega) (by omega) a, bd_some, decide_eq_true hx2, if_neg (by decide)]
        show gd_ (inb (rd a (23 + n1) 3) 8) _ = _
        rw [h3, gd_t (inb_n (show s < 8 by omega) (by decide)), cl_n (by omega)]
      · rw [hh, if_pos rfl] at hx
        rw [← Option.some.inj hx, if_neg (by decide)]
        refine (lt_eq _ _).trans ?_
        show (if (100 : Int32) = (100 : Int32) then _ else _) = _
        rw [if_pos rfl]
        show gd_ (inb (rd a (23 + n1) 3) 8) _ = _
        rw [h3, gd_t (inb_n (show s < 8 by omega) (by decide)), cl_n (by omega)]; rfl
    cases hpr : prt B N p with
    | none =>
      have hT1 : partsT B N (r + 1) p = .inl (tB B N p) := by rw [partsT, hpr]
      refine ⟨a, Or.inl ⟨tB B N p, hT1, Or.inl ⟨?_, hl.1⟩⟩, fun i hi => rfl, fr.refl _ _⟩
      rw [f_X9_readParts_L0, h3, if_neg (show ¬ (8 : Int32) ≤ nI s from of_eq_false (le_F (a := 8) (by omega))), show f_X9_isSign 35 a = _ from hsg, bd_some, lt_eq]
      unfold prt hash at hpr
      cases hh : (decide (tK B N p = 3) && decide (B (tB B N p) = 35))
      · rw [hh, if_neg (by decide)] at hpr
        rw [if_pos (by decide), hnum, bd_some]
        cases hn : num B N p with
        | none =>
          show (lt_ _ fun J45 => _) = _
          rw [lt_eq, if_neg (by decide), belowm, bd_some, if_pos rfl]
        | some v =>
          have hv := num_le hp hn
          have hnv := numB_none hpr hn
          show (lt_ _ fun J45 => _) = _
          rw [lt_eq, if_neg (show ¬ nI v = (100 : Int32) from of_eq_false (eq_F (b := 100) (by omega))), show f_X10_below (nI v) 32 a = _ from belowv (v := v) (b := 32) (by omega) (by omega) a, bd_some, decide_eq_false hnv, if_pos (by decide)]
      · rw [hh, if_pos rfl] at hpr; cases hpr
    | some x =>
      have hx100 : x ≤ 100 := by
        unfold prt at hpr
        split at hpr
        · rw [← Option.some.inj hpr]; omega
        · have := (numB_some.mp hpr).2; omega
      rw [hgood x hpr hx100, lt_eq, lt_eq, rw_ne (by omega), h3, show nI s + (1 : Int32) = nI (s + 1) from plus_n s 1]
      generalize ha2 : wr (wr a (33 + n1) s (nI x)) (23 + n1) 3 (nI (s + 1)) = a2
      have g : fr (fun c j => (c = 23 + n1 ∧ j = 3) ∨ (c = 33 + n1 ∧ j = s)) a a2 := by rw [← ha2]; exact ((fr.refl _ _).wr (by omega)).wr (by omega)
      have hf2 : fr Xt S a2 := hf.trans (g.mono (fun c j h => by unfold Xt; omega))
      obtain ⟨a3, o1, o2, o3⟩ := step_ok (S := S) (a := a2) hT hf2 y4 (by rw [g _ _ (by omega)]; exact hl.2.1)
      have hf3 : fr Xt S a3 := hf2.trans (o3.mono (fun c j h => by unfold Xt; omega))
      have h33 : rd a3 (23 + n1) 3 = nI (s + 1) := by rw [o3 _ _ (by omega), ← ha2, rw_eq]
      have hit : rd a3 (33 + n1) s = nI x := by rw [o3 _ _ (by omega), ← ha2, rw_ne (by omega), rw_eq]
      have hfr3 : fr (fun c j => (c = 20 ∧ (j = 4 ∨ j = 5 ∨ j = 6)) ∨ (c = 23 + n1 ∧ j = 3) ∨ c = 33 + n1) a a3 := (g.mono (fun c j h => by omega)).trans (o3.mono (fun c j h => Or.inl h))
      have hkeep : ∀ i, i < s → rd a3 (33 + n1) i = rd a (33 + n1) i := fun i hi => by rw [o3 _ _ (by omega), g _ _ (by omega)]
      rw [o1, bd_some, o2.2.2]
      have hsg2 := signC_ok (x := 59) hT hf3 y4 (by omega) o2
      have hk3 := (tok_facts B y4).2.2.2.2.2.1
      cases ht : term B N (tE B N p)
      · have hTl : ∀ ft, partsT B N r (tE B N p) = .inl ft → partsT B N (r + 1) p = .inl ft := fun ft h => by rw [partsT, hpr]; show (if _ then _ else _) = _; rw [ht, if_neg (by decide), h]
        have hTr : ∀ l q, partsT B N r (tE B N p) = .inr (l, q) → partsT B N (r + 1) p = .inr (x :: l, q) := fun l q h => by rw [partsT, hpr]; show (if _ then _ else _) = _; rw [ht, if_neg (by decide), h]
        have ht' := ht
        unfold term at ht'
        rw [Bool.or_eq_false_iff] at ht'
        have hk0 : tK B N (tE B N p) ≠ 0 := of_decide_eq_false ht'.1
        rw [if_neg (show ¬ nI (tK B N (tE B N p)) = 0 from of_eq_false (eq_F (b := 0) (by omega))), show f_X9_isSign 59 a3 = _ from hsg2, bd_some, ht'.2, if_pos (by decide)]
        obtain ⟨a4, q1, q2, q3⟩ := ih (s + 1) (tE B N p) a3 f (by omega) y4 (by omega) (fun _ => ht) hf3 o2 h33
        refine ⟨a4, ?_, fun i hi => by rw [q2 i (by omega)]; exact hkeep i hi, hfr3.trans q3⟩
        rcases q1 with ⟨ft, p1, p2⟩ | ⟨l, q, p1, p2, p3, p4, p5, p6, p7, p8⟩
        · left
          exact ⟨ft, hTl ft p1, p2⟩
        · right
          refine ⟨x :: l, q, hTr l q p1, p2, p3, p4, p5, by rw [p6, List.length_cons, show s + 1 + l.length = s + (l.length + 1) by omega], by rw [List.length_cons]; omega, fun i hi => ?_⟩
          cases i with
          | zero => rw [Nat.add_zero, q2 s (by omega)]; exact hit
          | succ i =>
            have := p8 i (by simp at hi; omega)
            rw [show s + (i + 1) = s + 1 + i by omega]; exact this
      · have hT1 : partsT B N (r + 1) p = .inr ([x], tE B N p) := by rw [partsT, hpr]; show (if _ then _ else _) = _; rw [ht, if_pos rfl]
        refine ⟨a3, Or.inr ⟨[x], tE B N p, hT1, ?_, y4, o2, ht, h33, by show s + 1 ≤ 8; omega, fun i hi => ?_⟩, hkeep, hfr3⟩
        · unfold term at ht
          by_cases k0 : tK B N (tE B N p) = 0
          · rw [if_pos (by rw [k0]; rfl)]
          · rw [decide_eq_false k0, Bool.false_or] at ht
            rw [if_neg (show ¬ nI (tK B N (tE B N p)) = 0 from of_eq_false (eq_F (b := 0) (by omega))), show f_X9_isSign 59 a3 = _ from hsg2, bd_some, ht, if_neg (by decide)]
        · have : i = 0 := by simp at hi; omega
          subst this; exact hit
