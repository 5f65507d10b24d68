/-! ===== the model lays a line's words out ===== -/
theorem canSpeakL_ok {S : St} {l v n : Nat} (hl : l < 8) (hv : v < 100) (hn : n ≤ 8) (h18 : rd S 69 l = nI n) (hp : ∀ i, i < n → rd S 70 (8 * l + i) = nI (if nv S 17 (8 * l + i) = 100 then 32 else nv S 17 (8 * l + i)) ∧ (nv S 17 (8 * l + i) = 100 ∨ nv S 17 (8 * l + i) < 32)) (hz : rd S 54 26 = nI 0) (K : St → Option (Int32 × St)) :
    ∃ S', f_X11_canSpeak_L7 K (nI l) (nI v) FU (nI 0) S = K S' ∧ hasL S' 71 54 26 (spkN S l v n) ∧ fr Xsm S S' := by
  refine loopC (fun f (a : St) i => f_X11_canSpeak_L7 K (nI l) (nI v) f (nI i) a) (fun x => ∃ S', x = K S' ∧ hasL S' 71 54 26 (spkN S l v n) ∧ fr Xsm S S') (fun i a => hasL a 71 54 26 (spkN S l v i) ∧ fr Xsm S a) n ?_ ?_ n 0 FU S (by omega) (by unfold FU; omega) ⟨hasL.nil hz, fr.refl _ _⟩
  · intro f a ⟨ha, hf⟩
    refine ⟨a, ?_, ha, hf⟩
    have e18 : rd a 69 l = nI n := by rw [hf 69 l (by unfold Xsm; omega)]; exact h18
    rw [f_X11_canSpeak_L7]
    simp (disch := omega) only [md_n, lt_eq, bd_some, gN, gN2, le_T, le_F, lt_T, lt_F, eq_T, eq_F, cN, plus_n, mul_n, rem_n, div_n, sub_n, re_T, re_F, rl_wr, rd_wl, ne_m1, m1_ne, m1_lt, m1_le, m1_ge, m1_gt, m1_refl, ↓reduceIte, L0, L1, L2, L3, L4, L5, L6, L7, L8, L9, L10, L11, L15, L16, L17, L18, L20, L24, L26, L28, L31, L32, L35, L36, L48, L57, L59, L63, L64, L96, L97, L99, L100, L112, L122, L128, L200, L255, L256, L1000, L1024, L2000, L3000, L1000000, L1000000007, e18]
  · intro f a i hi ⟨ha, hf⟩
    have e18 : rd a 69 l = nI n := by rw [hf 69 l (by unfold Xsm; omega)]; exact h18
    obtain ⟨hp1, hp2⟩ := hp i hi
    have hln := (spkN_len S l v i).2
    have e17 : rd a 70 (8 * l + i) = nI (if nv S 17 (8 * l + i) = 100 then 32 else nv S 17 (8 * l + i)) := by rw [hf 70 _ (by unfold Xsm; omega)]; exact hp1
    refine Or.inr ?_
    show ∃ a', _ ∧ hasL a' 71 54 26 (spkN S l v i ++ spw v (nv S 17 (8 * l + i))) ∧ _
    generalize nv S 17 (8 * l + i) = p at *
    unfold spw
    by_cases c : p = 100
    · rw [if_pos c] at e17
      rw [if_pos c]
      by_cases c2 : v < 20
      · rw [if_pos c2]
        obtain ⟨S', e, h1, h2⟩ := speakM_ok (w := v) ha (by omega)
        refine ⟨S', ?_, h1, hf.trans h2⟩
        rw [f_X11_canSpeak_L7]
        simp (disch := omega) only [md_n, lt_eq, bd_some, gN, gN2, le_T, le_F, lt_T, lt_F, eq_T, eq_F, cN, plus_n, mul_n, rem_n, div_n, sub_n, re_T, re_F, rl_wr, rd_wl, ne_m1, m1_ne, m1_lt, m1_le, m1_ge, m1_gt, m1_refl, ↓reduceIte, L0, L1, L2, L3, L4, L5, L6, L7, L8, L9, L10, L11, L15, L16, L17, L18, L20, L24, L26, L28, L31, L32, L35, L36, L48, L57, L59, L63, L64, L96, L97, L99, L100, L112, L122, L128, L200, L255, L256, L1000, L1024, L2000, L3000, L1000000, L1000000007, e18, e17, e]
      · rw [if_neg c2]
        obtain ⟨S', e, h1, h2⟩ := speakM_ok (w := 18 + v / 10) ha (by omega)
        by_cases c3 : v % 10 = 0
        · rw [if_pos c3]
          refine ⟨S', ?_, h1, hf.trans h2⟩
          rw [f_X11_canSpeak_L7]
          simp (disch := omega) only [md_n, lt_eq, bd_some, gN, gN2, le_T, le_F, lt_T, lt_F, eq_T, eq_F, cN, plus_n, mul_n, rem_n, div_n, sub_n, re_T, re_F, rl_wr, rd_wl, ne_m1, m1_ne, m1_lt, m1_le, m1_ge, m1_gt, m1_refl, ↓reduceIte, L0, L1, L2, L3, L4, L5, L6, L7, L8, L9, L10, L11, L15, L16, L17, L18, L20, L24, L26, L28, L31, L32, L35, L36, L48, L57, L59, L63, L64, L96, L97, L99, L100, L112, L122, L128, L200, L255, L256, L1000, L1024, L2000, L3000, L1000000, L1000000007, e18, e17, e]
        · rw [if_neg c3]
          obtain ⟨S2, e2, h3, h4⟩ := speakM_ok (w := v % 10) h1 (by simp; omega)
          refine ⟨S2, ?_, by simpa using h3, (hf.trans h2).trans h4⟩
          rw [f_X11_canSpeak_L7]
          simp (disch := omega) only [md_n, lt_eq, bd_some, gN, gN2, le_T, le_F, lt_T, lt_F, eq_T, eq_F, cN, plus_n, mul_n, rem_n, div_n, sub_n, re_T, re_F, rl_wr, rd_wl, ne_m1, m1_ne, m1_lt, m1_le, m1_ge, m1_gt, m1_refl, ↓reduceIte, L0, L1, L2, L3, L4, L5, L6, L7, L8, L9, L10, L11, L15, L16, L17, L18, L20, L24, L26, L28, L31, L32, L35, L36, L48, L57, L59, L63, L64, L96, L97, L99, L100, L112, L122, L128, L200, L255, L256, L1000, L1024, L2000, L3000, L1000000, L1000000007, e18, e17, e, e2]
    · rw [if_neg c] at e17
      rw [if_neg c]
      obtain ⟨S', e, h1, h2⟩ := speakM_ok (w := p) ha (by omega)
      refine ⟨S', ?_, h1, hf.trans h2⟩
      rw [f_X11_canSpeak_L7]
      simp (disch := omega) only [md_n, lt_eq, bd_some, gN, gN2, le_T, le_F, lt_T, lt_F, eq_T, eq_F, cN, plus_n, mul_n, rem_n, div_n, sub_n, re_T, re_F, rl_wr, rd_wl, ne_m1, m1_ne, m1_lt, m1_le, m1_ge, m1_gt, m1_refl, ↓reduceIte, L0, L1, L2, L3, L4, L5, L6, L7, L8, L9, L10, L11, L15, L16, L17, L18, L20, L24, L26, L28, L31, L32, L35, L36, L48, L57, L59, L63, L64, L96, L97, L99, L100, L112, L122, L128, L200, L255, L256, L1000, L1024, L2000, L3000, L1000000, L1000000007, e18, e17, e]
/-- the invariant of words and lines -/
def wx (S : St) (w : Nat) : Nat := (rd S 15 w).toBitVec.toNat
def OKw (S : St) (w : Nat) : Prop := rd S 16 w = nI (nv S 16 w) ∧ nv S 16 w ≤ 8 ∧ rd S 67 w = nI (nv S 16 w) ∧ wx S w < 16 ^ nv S 16 w ∧ ∀ j, j < nv S 16 w → rd S 68 (8 * w + j) = nI (wx S w / 16 ^ j % 16)
def OKl (S : St) (l : Nat) : Prop := rd S 18 l = nI (nv S 18 l) ∧ nv S 18 l ≤ 8 ∧ rd S 69 l = nI (nv S 18 l) ∧ ∀ j, j < nv S 18 l → rd S 17 (8 * l + j) = nI (nv S 17 (8 * l + j)) ∧ (nv S 17 (8 * l + j) = 100 ∨ nv S 17 (8 * l + j) < 32) ∧ rd S 70 (8 * l + j) = nI (if nv S 17 (8 * l + j) = 100 then 32 else nv S 17 (8 * l + j))
def I_lex (S : St) : Prop := (∀ w, w < 32 → OKw S w) ∧ ∀ l, l < 8 → OKl S l
def spk (S : St) (l v : Nat) : List Nat := spkN S l v (nv S 18 l)
def wtold (S : St) (L : List Nat) : Bool := L.all (fun w => nv S 16 w != 0)

theorem spkN_lt {S : St} {l v k : Nat} (hv : v < 100) (h : ∀ j, j < k → nv S 17 (8 * l + j) = 100 ∨ nv S 17 (8 * l + j) < 32) : ∀ w ∈ spkN S l v k, w < 32 := by
  induction k with
  | zero => intro w hw; simp [spkN] at hw
  | succ k ih =>
    intro w hw
    rw [spkN, List.mem_append] at hw
    rcases hw with hw | hw
    · exact ih (fun j hj => h j (by omega)) w hw
    · exact spw_lt hv (h k (by omega)) w hw
theorem spk_facts {S : St} {l v : Nat} (hI : I_lex S) (hl : l < 8) (hv : v < 100) : (spk S l v).length ≤ 16 ∧ nv S 18 l ≤ (spk S l v).length ∧ (∀ w ∈ spk S l v, w < 32) ∧ ∀ i, i < (spk S l v).length → (spk S l v).getD i 0 < 32 := by
  have h := hI.2 l hl
  have h2 := h.2.1
  have h1 := spkN_len S l v (nv S 18 l)
  have h3 : ∀ w ∈ spk S l v, w < 32 := spkN_lt hv (fun j hj => (h.2.2.2 j hj).2.1)
  refine ⟨by unfold spk; omega, h1.1, h3, fun i hi => ?_⟩
  apply h3
  rw [List.getD_eq_getElem?_getD, List.getElem?_eq_getElem hi]
  exact List.getElem_mem hi
theorem all_at {L : List Nat} {p : Nat → Bool} (h : ∀ i, i < L.length → p (L.getD i 0) = true) : L.all p = true := by
  rw [List.all_eq_true]
  intro x hx
  obtain ⟨i, hi, rfl⟩ := List.getElem_of_mem hx
  have := h i hi
  rwa [List.getD_eq_getElem?_getD, List.getElem?_eq_getElem hi] at this
theorem not_all_at {L : List Nat} {p : Nat → Bool} {i : Nat} (hi : i < L.length) (h : p (L.getD i 0) = false) : L.all p = false := by
  rw [List.all_eq_false]
  refine ⟨L.getD i 0, ?_, by rw [h]; decide⟩
  rw [List.getD_eq_getElem?_getD, List.getElem?_eq_getElem hi]
  exact List.getElem_mem hi
theorem spell_ok {S : St} {l v : Nat} (hI : I_lex S) (hl : l < 8) (hv : v < 100) : ∃ S', f_X1_spell (nI l) (nI v) S = some (bI (wtold S (spk S l v)), S') ∧ hasL S' 19 14 5 (spk S l v) ∧ fr Xsc S S' := by
  obtain ⟨f1, -, -, f4⟩ := spk_facts hI hl hv
  obtain ⟨g1, g2, g3, g4⟩ := hI.2 l hl
  have hX : fr Xsc S (wr S 14 5 (nI 0)) := (fr.refl _ _).wr (Or.inr ⟨rfl, rfl⟩)
  have e17 : ∀ j, nv (wr S 14 5 (nI 0)) 17 j = nv S 17 j := fun j => by unfold nv; rw [rw_ne (by omega)]
  have espk : spkN (wr S 14 5 (nI 0)) l v (nv S 18 l) = spk S l v := by
    unfold spk
    generalize nv S 18 l = k
    induction k with
    | zero => rfl
    | succ k ih => rw [spkN, spkN, ih, e17]
  unfold f_X1_spell
  rw [lt_eq]
  obtain ⟨S', e, h1, h2⟩ := spellL_ok (S := wr S 14 5 (nI 0)) (n := nv S 18 l) hl hv g2 (by rw [rw_ne (by omega)]; exact g1) (fun i hi => by rw [e17, rw_ne (by omega)]; exact ⟨(g4 i hi).1, (g4 i hi).2.1⟩) rw_eq _
  rw [espk] at h1
  have hS : fr Xsc S S' := hX.trans h2
  refine ⟨S', e.trans ?_, h1, hS⟩
  refine loopC (fun f (_ : Unit) i => f_X1_spell_L59 (fun S27 => some ((0 : Int32), S27)) (fun S28 => some ((1 : Int32), S28)) f (nI i) S') (fun x => x = some (bI (wtold S (spk S l v)), S')) (fun i _ => ∀ j, j < i → (nv S 16 ((spk S l v).getD j 0) != 0) = true) (spk S l v).length ?_ ?_ (spk S l v).length 0 FU () (by omega) (by unfold FU; omega) (fun j hj => by omega)
  · intro f a ha
    have e1 := h1.1
    rw [f_X1_spell_L59, show wtold S (spk S l v) = true from all_at ha]
    simp (disch := omega) only [md_n, lt_eq, bd_some, gN, gN2, le_T, le_F, lt_T, lt_F, eq_T, eq_F, cN, plus_n, mul_n, rem_n, div_n, sub_n, re_T, re_F, rl_wr, rd_wl, ne_m1, m1_ne, m1_lt, m1_le, m1_ge, m1_gt, m1_refl, ↓reduceIte, L0, L1, L2, L3, L4, L5, L6, L7, L8, L9, L10, L11, L15, L16, L17, L18, L20, L24, L26, L28, L31, L32, L35, L36, L48, L57, L59, L63, L64, L96, L97, L99, L100, L112, L122, L128, L200, L255, L256, L1000, L1024, L2000, L3000, L1000000, L1000000007, e1, bI]
  · intro f a i hi ha
    have e1 := h1.1
    have e2 := h1.2 i hi
    have e3 := f4 i hi
    obtain ⟨w1, w2, -⟩ := hI.1 _ e3
    have e4 : rd S' 16 ((spk S l v).getD i 0) = nI (nv S 16 ((spk S l v).getD i 0)) := by rw [hS 16 _ (by unfold Xsc; omega)]; exact w1
    by_cases c : nv S 16 ((spk S l v).getD i 0) = 0
    · left
      show f_X1_spell_L59 _ _ _ _ _ = _
      rw [f_X1_spell_L59, show wtold S (spk S l v) = false from not_all_at hi (by rw [c]; rfl)]
      simp (disch := omega) only [md_n, lt_eq, bd_some, gN, gN2, le_T, le_F, lt_T, lt_F, eq_T, eq_F, cN, plus_n, mul_n, rem_n, div_n, sub_n, re_T, re_F, rl_wr, rd_wl, ne_m1, m1_ne, m1_lt, m1_le, m1_ge, m1_gt, m1_refl, ↓reduceIte, L0, L1, L2, L3, L4, L5, L6, L7, L8, L9, L10, L11, L15, L16, L17, L18, L20, L24, L26, L28, L31, L32, L35, L36, L48, L57, L59, L63, L64, L96, L97, L99, L100, L112, L122, L128, L200, L255, L256, L1000, L1024, L2000, L3000, L1000000, L1000000007, e1, e2, e4, bI, Bool.false_eq_true]
    · right
      refine ⟨(), ?_, fun j hj => ?_⟩
      · show f_X1_spell_L59 _ _ _ _ _ = _
        rw [f_X1_spell_L59]
        simp (disch := omega) only [md_n, lt_eq, bd_some, gN, gN2, le_T, le_F, lt_T, lt_F, eq_T, eq_F, cN, plus_n, mul_n, rem_n, div_n, sub_n, re_T, re_F, rl_wr, rd_wl, ne_m1, m1_ne, m1_lt, m1_le, m1_ge, m1_gt, m1_refl, ↓reduceIte, L0, L1, L2, L3, L4, L5, L6, L7, L8, L9, L10, L11, L15, L16, L17, L18, L20, L24, L26, L28, L31, L32, L35, L36, L48, L57, L59, L63, L64, L96, L97, L99, L100, L112, L122, L128, L200, L255, L256, L1000, L1024, L2000, L3000, L1000000, L1000000007, e1, e2, e4]
      · by_cases c2 : j = i
        · rw [c2]; exact bne_iff_ne.mpr c
        · exact ha j (by omega)
theorem canSpeak_ok {S : St} {l v : Nat} (hI : I_lex S) (hl : l < 8) (hv : v < 100) : ∃ S', f_X11_canSpeak (nI l) (nI v) S = some (bI (wtold S (spk S l v)), S') ∧ hasL S' 71 54 26 (spk S l v) ∧ fr Xsm S S' := by
  obtain ⟨f1, -, -, f4⟩ := spk_facts hI hl hv
  obtain ⟨g1, g2, g3, g4⟩ := hI.2 l hl
  have hX : fr Xsm S (wr S 54 26 (nI 0)) := (fr.refl _ _).wr (Or.inr ⟨rfl, rfl⟩)
  have e17 : ∀ j, nv (wr S 54 26 (nI 0)) 17 j = nv S 17 j := fun j => by unfold nv; rw [rw_ne (by omega)]
  have espk : spkN (wr S 54 26 (nI 0)) l v (nv S 18 l) = spk S l v := by
    unfold spk
    generalize nv S 18 l = k
    induction k with
    | zero => rfl
    | succ k ih => rw [spkN, spkN, ih, e17]
  unfold f_X11_canSpeak
  rw [lt_eq]
  obtain ⟨S', e, h1, h2⟩ := canSpeakL_ok (S := wr S 54 26 (nI 0)) (n := nv S 18 l) hl hv g2 (by rw [rw_ne (by omega)]; exact g3) (fun i hi => by rw [e17, rw_ne (by omega)]; exact ⟨(g4 i hi).2.2, (g4 i hi).2.1⟩) rw_eq _
  rw [espk] at h1
  have hS : fr Xsm S S' := hX.trans h2
  refine ⟨S', e.trans ?_, h1, hS⟩
  refine loopC (fun f (b : Bool) i => f_X11_canSpeak_L97 (fun x37 S38 => gd_ (bz x37) <| some (x37, S38)) f (bI b) (nI i) S') (fun x => x = some (bI (wtold S (spk S l v)), S')) (fun i b => (b = true ∧ ∀ j, j < i → (nv S 16 ((spk S l v).getD j 0) != 0) = true) ∨ (b = false ∧ wtold S (spk S l v) = false)) (spk S l v).length ?_ ?_ (spk S l v).length 0 FU true (by omega) (by unfold FU; omega) (Or.inl ⟨rfl, fun j hj => by omega⟩)
  · intro f b hb
    have e1 := h1.1
    show f_X11_canSpeak_L97 _ _ _ _ _ = _
    rw [f_X11_canSpeak_L97]
    have : b = wtold S (spk S l v) := by
      rcases hb with ⟨rfl, h⟩ | ⟨rfl, h⟩
      · exact (show wtold S (spk S l v) = true from all_at h).symm
      · exact h.symm
    subst this
    simp (disch := omega) only [md_n, lt_eq, bd_some, gN, gN2, le_T, le_F, lt_T, lt_F, eq_T, eq_F, cN, plus_n, mul_n, rem_n, div_n, sub_n, re_T, re_F, rl_wr, rd_wl, ne_m1, m1_ne, m1_lt, m1_le, m1_ge, m1_gt, m1_refl, ↓reduceIte, L0, L1, L2, L3, L4, L5, L6, L7, L8, L9, L10, L11, L15, L16, L17, L18, L20, L24, L26, L28, L31, L32, L35, L36, L48, L57, L59, L63, L64, L96, L97, L99, L100, L112, L122, L128, L200, L255, L256, L1000, L1024, L2000, L3000, L1000000, L1000000007, e1]
    rw [gd_t]
    cases wtold S (spk S l v)
    · exact Or.inl rfl
    · exact Or.inr rfl
  · intro f b i hi hb
    have e1 := h1.1
    have e2 := h1.2 i hi
    have e3 := f4 i hi
    obtain ⟨w1, w2, w3, -⟩ := hI.1 _ e3
    have e4 : rd S' 67 ((spk S l v).getD i 0) = nI (nv S 16 ((spk S l v).getD i 0)) := by rw [hS 67 _ (by unfold Xsm; omega)]; exact w3
    right
    rcases hb with ⟨rfl, hb⟩ | ⟨rfl, hb⟩
    · by_cases c : nv S 16 ((spk S l v).getD i 0) = 0
      · refine ⟨false, ?_, Or.inr ⟨rfl, not_all_at hi (by rw [c]; rfl)⟩⟩
        show f_X11_canSpeak_L97 _ _ (nI 1) _ _ = f_X11_canSpeak_L97 _ _ (nI 0) _ _
        rw [f_X11_canSpeak_L97]
        simp (disch := omega) only [md_n, lt_eq, bd_some, gN, gN2, le_T, le_F, lt_T, lt_F, eq_T, eq_F, cN, plus_n, mul_n, rem_n, div_n, sub_n, re_T, re_F, rl_wr, rd_wl, ne_m1, m1_ne, m1_lt, m1_le, m1_ge, m1_gt, m1_refl, ↓reduceIte, L0, L1, L2, L3, L4, L5, L6, L7, L8, L9, L10, L11, L15, L16, L17, L18, L20, L24, L26, L28, L31, L32, L35, L36, L48, L57, L59, L63, L64, L96, L97, L99, L100, L112, L122, L128, L200, L255, L256, L1000, L1024, L2000, L3000, L1000000, L1000000007, e1, e2, e4]
      · refine ⟨true, ?_, Or.inl ⟨rfl, fun j hj => ?_⟩⟩
        · show f_X11_canSpeak_L97 _ _ (nI 1) _ _ = f_X11_canSpeak_L97 _ _ (nI 1) _ _
          rw [f_X11_canSpeak_L97]
          simp (disch := omega) only [md_n, lt_eq, bd_some, gN, gN2, le_T, le_F, lt_T, lt_F, eq_T, eq_F, cN, plus_n, mul_n, rem_n, div_n, sub_n, re_T, re_F, rl_wr, rd_wl, ne_m1, m1_ne, m1_lt, m1_le, m1_ge, m1_gt, m1_refl, ↓reduceIte, L0, L1, L2, L3, L4, L5, L6, L7, L8, L9, L10, L11, L15, L16, L17, L18, L20, L24, L26, L28, L31, L32, L35, L36, L48, L57, L59, L63, L64, L96, L97, L99, L100, L112, L122, L128, L200, L255, L256, L1000, L1024, L2000, L3000, L1000000, L1000000007, e1, e2, e4]
        · by_cases c2 : j = i
          · rw [c2]; exact bne_iff_ne.mpr c
          · exact hb j (by omega)
    · refine ⟨false, ?_, Or.inr ⟨rfl, hb⟩⟩
      show f_X11_canSpeak_L97 _ _ (nI 0) _ _ = f_X11_canSpeak_L97 _ _ (nI 0) _ _
      rw [f_X11_canSpeak_L97]
      simp (disch := omega) only [md_n, lt_eq, bd_some, gN, gN2, le_T, le_F, lt_T, lt_F, eq_T, eq_F, cN, plus_n, mul_n, rem_n, div_n, sub_n, re_T, re_F, rl_wr, rd_wl, ne_m1, m1_ne, m1_lt, m1_le, m1_ge, m1_gt, m1_refl, ↓reduceIte, L0, L1, L2, L3, L4, L5, L6, L7, L8, L9, L10, L11, L15, L16, L17, L18, L20, L24, L26, L28, L31, L32, L35, L36, L48, L57, L59, L63, L64, L96, L97, L99, L100, L112, L122, L128, L200, L255, L256, L1000, L1024, L2000, L3000, L1000000, L1000000007, e1]
