/-! ===== words and lines: what is spoken ===== -/
def spw (v part : Nat) : List Nat := if part = 100 then (if v < 20 then [v] else if v % 10 = 0 then [18 + v / 10] else [18 + v / 10, v % 10]) else [part]
theorem spw_len (v part : Nat) : 1 ≤ (spw v part).length ∧ (spw v part).length ≤ 2 := by
  unfold spw
  repeat' split
  all_goals simp
theorem spw_lt {v part : Nat} (hv : v < 100) (hp : part = 100 ∨ part < 32) : ∀ w ∈ spw v part, w < 32 := by
  unfold spw
  intro w
  repeat' split
  all_goals simp
  all_goals omega
theorem hasL.snoc {S S' : St} {A B k : Nat} {l : List Nat} {w : Nat} (h : hasL S A B k l) (hAB : A ≠ B) (e : S' = wr (wr S A l.length (nI w)) B k (nI (l.length + 1))) : hasL S' A B k (l ++ [w]) := by
  subst e
  refine ⟨by rw [rw_eq]; simp, fun i hi => ?_⟩
  simp at hi
  rw [rw_ne (Or.inl hAB)]
  by_cases c : i = l.length
  · subst c
    rw [rw_eq]; simp [List.getD]
  · rw [rw_ne (Or.inr c), h.2 i (by omega)]
    simp [List.getD, List.getElem?_append, show i < l.length by omega]
theorem speakC_ok {S : St} {l : List Nat} {w : Nat} (h : hasL S 19 14 5 l) (hl : l.length < 16) : ∃ S', f_X1_speak (nI w) S = some ((), S') ∧ hasL S' 19 14 5 (l ++ [w]) ∧ fr (fun c j => c = 19 ∨ c = 14 ∧ j = 5) S S' := by
  refine ⟨_, ?_, h.snoc (by decide) rfl, ((fr.refl _ _).wr (Or.inl rfl)).wr (Or.inr ⟨rfl, rfl⟩)⟩
  unfold f_X1_speak
  have h1 := h.1
  simp (disch := omega) only [md_n, lt_eq, bd_some, gN, gN2, le_T, le_F, lt_T, lt_F, eq_T, eq_F, cN, plus_n, mul_n, rem_n, div_n, sub_n, re_T, re_F, rl_wr, rd_wl, ne_m1, m1_ne, m1_lt, m1_le, m1_ge, m1_gt, m1_refl, ↓reduceIte, L0, L1, L2, L3, L4, L5, L6, L7, L8, L9, L10, L11, L15, L16, L17, L18, L20, L24, L26, L28, L31, L32, L35, L36, L48, L57, L59, L63, L64, L96, L97, L99, L100, L112, L122, L128, L200, L255, L256, L1000, L1024, L2000, L3000, L1000000, L1000000007, h1]
theorem speakM_ok {S : St} {l : List Nat} {w : Nat} (h : hasL S 71 54 26 l) (hl : l.length < 16) : ∃ S', f_X11_speak (nI w) S = some ((), S') ∧ hasL S' 71 54 26 (l ++ [w]) ∧ fr (fun c j => c = 71 ∨ c = 54 ∧ j = 26) S S' := by
  refine ⟨_, ?_, h.snoc (by decide) rfl, ((fr.refl _ _).wr (Or.inl rfl)).wr (Or.inr ⟨rfl, rfl⟩)⟩
  unfold f_X11_speak
  have h1 := h.1
  simp (disch := omega) only [md_n, lt_eq, bd_some, gN, gN2, le_T, le_F, lt_T, lt_F, eq_T, eq_F, cN, plus_n, mul_n, rem_n, div_n, sub_n, re_T, re_F, rl_wr, rd_wl, ne_m1, m1_ne, m1_lt, m1_le, m1_ge, m1_gt, m1_refl, ↓reduceIte, L0, L1, L2, L3, L4, L5, L6, L7, L8, L9, L10, L11, L15, L16, L17, L18, L20, L24, L26, L28, L31, L32, L35, L36, L48, L57, L59, L63, L64, L96, L97, L99, L100, L112, L122, L128, L200, L255, L256, L1000, L1024, L2000, L3000, L1000000, L1000000007, h1]
/-- the first k parts of line l, with number v: words -/
def spkN (S : St) (l v : Nat) : Nat → List Nat
  | 0 => []
  | k + 1 => spkN S l v k ++ spw v (nv S 17 (8 * l + k))
theorem spkN_len (S : St) (l v k : Nat) : k ≤ (spkN S l v k).length ∧ (spkN S l v k).length ≤ 2 * k := by
  induction k with
  | zero => exact ⟨Nat.le_refl _, Nat.le_refl _⟩
  | succ k ih =>
    have := spw_len v (nv S 17 (8 * l + k))
    rw [spkN, List.length_append]
    omega
def Xsc (c j : Nat) : Prop := c = 19 ∨ c = 14 ∧ j = 5
def Xsm (c j : Nat) : Prop := c = 71 ∨ c = 54 ∧ j = 26
theorem spellL_ok {S : St} {l v n : Nat} (hl : l < 8) (hv : v < 100) (hn : n ≤ 8) (h18 : rd S 18 l = nI n) (hp : ∀ i, i < n → rd S 17 (8 * l + i) = nI (nv S 17 (8 * l + i)) ∧ (nv S 17 (8 * l + i) = 100 ∨ nv S 17 (8 * l + i) < 32)) (hz : rd S 14 5 = nI 0) (K : St → Option (Int32 × St)) :
    ∃ S', f_X1_spell_L7 K (nI l) (nI v) FU (nI 0) S = K S' ∧ hasL S' 19 14 5 (spkN S l v n) ∧ fr Xsc S S' := by
  refine loopC (fun f (a : St) i => f_X1_spell_L7 K (nI l) (nI v) f (nI i) a) (fun x => ∃ S', x = K S' ∧ hasL S' 19 14 5 (spkN S l v n) ∧ fr Xsc S S') (fun i a => hasL a 19 14 5 (spkN S l v i) ∧ fr Xsc S a) n ?_ ?_ n 0 FU S (by omega) (by unfold FU; omega) ⟨hasL.nil hz, fr.refl _ _⟩
  · intro f a ⟨ha, hf⟩
    refine ⟨a, ?_, ha, hf⟩
    have e18 : rd a 18 l = nI n := by rw [hf 18 l (by unfold Xsc; omega)]; exact h18
    rw [f_X1_spell_L7]
    simp (disch := omega) only [md_n, lt_eq, bd_some, gN, gN2, le_T, le_F, lt_T, lt_F, eq_T, eq_F, cN, plus_n, mul_n, rem_n, div_n, sub_n, re_T, re_F, rl_wr, rd_wl, ne_m1, m1_ne, m1_lt, m1_le, m1_ge, m1_gt, m1_refl, ↓reduceIte, L0, L1, L2, L3, L4, L5, L6, L7, L8, L9, L10, L11, L15, L16, L17, L18, L20, L24, L26, L28, L31, L32, L35, L36, L48, L57, L59, L63, L64, L96, L97, L99, L100, L112, L122, L128, L200, L255, L256, L1000, L1024, L2000, L3000, L1000000, L1000000007, e18]
  · intro f a i hi ⟨ha, hf⟩
    have e18 : rd a 18 l = nI n := by rw [hf 18 l (by unfold Xsc; omega)]; exact h18
    obtain ⟨hp1, hp2⟩ := hp i hi
    have hln := (spkN_len S l v i).2
    have e17 : rd a 17 (l * 8 + i) = nI (nv S 17 (8 * l + i)) := by rw [hf 17 _ (by unfold Xsc; omega), Nat.mul_comm]; exact hp1
    refine Or.inr ?_
    show ∃ a', _ ∧ hasL a' 19 14 5 (spkN S l v i ++ spw v (nv S 17 (8 * l + i))) ∧ _
    generalize nv S 17 (8 * l + i) = p at *
    unfold spw
    by_cases c : p = 100
    · rw [if_pos c]
      by_cases c2 : v < 20
      · rw [if_pos c2]
        obtain ⟨S', e, h1, h2⟩ := speakC_ok (w := v) ha (by omega)
        refine ⟨S', ?_, h1, hf.trans h2⟩
        rw [f_X1_spell_L7]
        simp (disch := omega) only [md_n, lt_eq, bd_some, gN, gN2, le_T, le_F, lt_T, lt_F, eq_T, eq_F, cN, plus_n, mul_n, rem_n, div_n, sub_n, re_T, re_F, rl_wr, rd_wl, ne_m1, m1_ne, m1_lt, m1_le, m1_ge, m1_gt, m1_refl, ↓reduceIte, L0, L1, L2, L3, L4, L5, L6, L7, L8, L9, L10, L11, L15, L16, L17, L18, L20, L24, L26, L28, L31, L32, L35, L36, L48, L57, L59, L63, L64, L96, L97, L99, L100, L112, L122, L128, L200, L255, L256, L1000, L1024, L2000, L3000, L1000000, L1000000007, e18, e17, f_X1_spellNumber, e]
      · rw [if_neg c2]
        obtain ⟨S', e, h1, h2⟩ := speakC_ok (w := 18 + v / 10) ha (by omega)
        by_cases c3 : v % 10 = 0
        · rw [if_pos c3]
          refine ⟨S', ?_, h1, hf.trans h2⟩
          rw [f_X1_spell_L7]
          simp (disch := omega) only [md_n, lt_eq, bd_some, gN, gN2, le_T, le_F, lt_T, lt_F, eq_T, eq_F, cN, plus_n, mul_n, rem_n, div_n, sub_n, re_T, re_F, rl_wr, rd_wl, ne_m1, m1_ne, m1_lt, m1_le, m1_ge, m1_gt, m1_refl, ↓reduceIte, L0, L1, L2, L3, L4, L5, L6, L7, L8, L9, L10, L11, L15, L16, L17, L18, L20, L24, L26, L28, L31, L32, L35, L36, L48, L57, L59, L63, L64, L96, L97, L99, L100, L112, L122, L128, L200, L255, L256, L1000, L1024, L2000, L3000, L1000000, L1000000007, e18, e17, f_X1_spellNumber, e]
        · rw [if_neg c3]
          obtain ⟨S2, e2, h3, h4⟩ := speakC_ok (w := v % 10) h1 (by simp; omega)
          refine ⟨S2, ?_, by simpa using h3, (hf.trans h2).trans h4⟩
          rw [f_X1_spell_L7]
          simp (disch := omega) only [md_n, lt_eq, bd_some, gN, gN2, le_T, le_F, lt_T, lt_F, eq_T, eq_F, cN, plus_n, mul_n, rem_n, div_n, sub_n, re_T, re_F, rl_wr, rd_wl, ne_m1, m1_ne, m1_lt, m1_le, m1_ge, m1_gt, m1_refl, ↓reduceIte, L0, L1, L2, L3, L4, L5, L6, L7, L8, L9, L10, L11, L15, L16, L17, L18, L20, L24, L26, L28, L31, L32, L35, L36, L48, L57, L59, L63, L64, L96, L97, L99, L100, L112, L122, L128, L200, L255, L256, L1000, L1024, L2000, L3000, L1000000, L1000000007, e18, e17, f_X1_spellNumber, e, e2]
    · rw [if_neg c]
      obtain ⟨S', e, h1, h2⟩ := speakC_ok (w := p) ha (by omega)
      refine ⟨S', ?_, h1, hf.trans h2⟩
      rw [f_X1_spell_L7]
      simp (disch := omega) only [md_n, lt_eq, bd_some, gN, gN2, le_T, le_F, lt_T, lt_F, eq_T, eq_F, cN, plus_n, mul_n, rem_n, div_n, sub_n, re_T, re_F, rl_wr, rd_wl, ne_m1, m1_ne, m1_lt, m1_le, m1_ge, m1_gt, m1_refl, ↓reduceIte, L0, L1, L2, L3, L4, L5, L6, L7, L8, L9, L10, L11, L15, L16, L17, L18, L20, L24, L26, L28, L31, L32, L35, L36, L48, L57, L59, L63, L64, L96, L97, L99, L100, L112, L122, L128, L200, L255, L256, L1000, L1024, L2000, L3000, L1000000, L1000000007, e18, e17, e]
