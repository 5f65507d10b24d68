/-! ===== word, line ===== -/
theorem OKw.x {S : St} {w : Nat} (h : OKw S w) : wx S w < 4294967296 ∧ rd S 15 w = nI (wx S w) := by
  obtain ⟨-, h2, -, h4, -⟩ := h
  refine ⟨Nat.lt_of_lt_of_le h4 (pow16 h2), ?_⟩
  unfold wx
  apply Int32.toBitVec_inj.mp
  rw [nI_bv, BitVec.ofNat_toNat, BitVec.setWidth_eq]
theorem soundOf_ok {S : St} {w i : Nat} (h : OKw S w) (hw : w < 32) (hi : i < nv S 16 w) : f_X1_soundOf (nI w) (nI i) S = some (nI (wx S w / 16 ^ i % 16), S) := by
  unfold f_X1_soundOf
  rw [gd_t (inb_n hw (by decide)), cl_n (by omega), h.x.2, snd_n h.x.1 (by have := h.2.1; omega)]
theorem word_all (v1 v2 : Int32) {S : St} (hI : I_lex S) : ∃ r, f_X10_word v1 v2 S = some (r, S) ∧ f_X11_word v1 v2 S = some (r, S) := by
  unfold f_X10_word f_X11_word
  rcases bl v1 32 (by decide) (by decide) with h | ⟨w, hw, rfl, h⟩
  · obtain ⟨h1, h2⟩ := h S
    rw [show f_X10_below v1 32 S = _ from h1, show f_X11_in v1 0 31 S = _ from h2]
    exact ⟨-2, rfl, rfl⟩
  · obtain ⟨h1, h2⟩ := h S
    have hw' := hI.1 w hw
    have hs := fun i hi => soundOf_ok (i := i) hw' hw hi
    obtain ⟨e1, e2, e3, e4, e5⟩ := hw'
    rw [show f_X10_below (nI w) 32 S = _ from h1, show f_X11_in (nI w) 0 31 S = _ from h2]
    rcases m1c v2 with c | rfl | ⟨i, hi, rfl⟩
    · refine ⟨-3, ?_, ?_⟩
      · rw [bd_some, if_neg (by decide), if_neg c]
      · rw [bd_some, if_neg (by decide), if_neg c]
    · refine ⟨nI (nv S 16 w), ?_, ?_⟩
      · simp (disch := omega) only [md_n, lt_eq, bd_some, gN, gN2, le_T, le_F, lt_T, lt_F, eq_T, eq_F, cN, plus_n, mul_n, rem_n, div_n, sub_n, re_T, re_F, rl_wr, rd_wl, ne_m1, m1_ne, m1_lt, m1_le, m1_ge, m1_gt, m1_refl, ↓reduceIte, L0, L1, L2, L3, L4, L5, L6, L7, L8, L9, L10, L11, L15, L16, L17, L18, L20, L24, L26, L28, L31, L32, L35, L36, L48, L57, L59, L63, L64, L96, L97, L99, L100, L112, L122, L128, L200, L255, L256, L1000, L1024, L2000, L3000, L1000000, L1000000007, e1]
      · simp (disch := omega) only [md_n, lt_eq, bd_some, gN, gN2, le_T, le_F, lt_T, lt_F, eq_T, eq_F, cN, plus_n, mul_n, rem_n, div_n, sub_n, re_T, re_F, rl_wr, rd_wl, ne_m1, m1_ne, m1_lt, m1_le, m1_ge, m1_gt, m1_refl, ↓reduceIte, L0, L1, L2, L3, L4, L5, L6, L7, L8, L9, L10, L11, L15, L16, L17, L18, L20, L24, L26, L28, L31, L32, L35, L36, L48, L57, L59, L63, L64, L96, L97, L99, L100, L112, L122, L128, L200, L255, L256, L1000, L1024, L2000, L3000, L1000000, L1000000007, e3]
    · by_cases c : nv S 16 w ≤ i
      · refine ⟨-1, ?_, ?_⟩
        · simp (disch := omega) only [md_n, lt_eq, bd_some, gN, gN2, le_T, le_F, lt_T, lt_F, eq_T, eq_F, cN, plus_n, mul_n, rem_n, div_n, sub_n, re_T, re_F, rl_wr, rd_wl, ne_m1, m1_ne, m1_lt, m1_le, m1_ge, m1_gt, m1_refl, ↓reduceIte, L0, L1, L2, L3, L4, L5, L6, L7, L8, L9, L10, L11, L15, L16, L17, L18, L20, L24, L26, L28, L31, L32, L35, L36, L48, L57, L59, L63, L64, L96, L97, L99, L100, L112, L122, L128, L200, L255, L256, L1000, L1024, L2000, L3000, L1000000, L1000000007, e1]
        · simp (disch := omega) only [md_n, lt_eq, bd_some, gN, gN2, le_T, le_F, lt_T, lt_F, eq_T, eq_F, cN, plus_n, mul_n, rem_n, div_n, sub_n, re_T, re_F, rl_wr, rd_wl, ne_m1, m1_ne, m1_lt, m1_le, m1_ge, m1_gt, m1_refl, ↓reduceIte, L0, L1, L2, L3, L4, L5, L6, L7, L8, L9, L10, L11, L15, L16, L17, L18, L20, L24, L26, L28, L31, L32, L35, L36, L48, L57, L59, L63, L64, L96, L97, L99, L100, L112, L122, L128, L200, L255, L256, L1000, L1024, L2000, L3000, L1000000, L1000000007, e3]
      · refine ⟨nI (wx S w / 16 ^ i % 16), ?_, ?_⟩
        · simp (disch := omega) only [md_n, lt_eq, bd_some, gN, gN2, le_T, le_F, lt_T, lt_F, eq_T, eq_F, cN, plus_n, mul_n, rem_n, div_n, sub_n, re_T, re_F, rl_wr, rd_wl, ne_m1, m1_ne, m1_lt, m1_le, m1_ge, m1_gt, m1_refl, ↓reduceIte, L0, L1, L2, L3, L4, L5, L6, L7, L8, L9, L10, L11, L15, L16, L17, L18, L20, L24, L26, L28, L31, L32, L35, L36, L48, L57, L59, L63, L64, L96, L97, L99, L100, L112, L122, L128, L200, L255, L256, L1000, L1024, L2000, L3000, L1000000, L1000000007, e1, hs]
        · simp (disch := omega) only [md_n, lt_eq, bd_some, gN, gN2, le_T, le_F, lt_T, lt_F, eq_T, eq_F, cN, plus_n, mul_n, rem_n, div_n, sub_n, re_T, re_F, rl_wr, rd_wl, ne_m1, m1_ne, m1_lt, m1_le, m1_ge, m1_gt, m1_refl, ↓reduceIte, L0, L1, L2, L3, L4, L5, L6, L7, L8, L9, L10, L11, L15, L16, L17, L18, L20, L24, L26, L28, L31, L32, L35, L36, L48, L57, L59, L63, L64, L96, L97, L99, L100, L112, L122, L128, L200, L255, L256, L1000, L1024, L2000, L3000, L1000000, L1000000007, e3, e5]
theorem knows_ok (v : Int32) {S : St} (hI : I_lex S) : (∀ S', (∀ j, rd S' 18 j = rd S 18 j) → (∀ j, rd S' 69 j = rd S 69 j) → f_X1_knows v S' = some (0, S') ∧ f_X11_isLine v S' = some (0, S')) ∨ ∃ l, l < 8 ∧ v = nI l ∧ 0 < nv S 18 l ∧ ∀ S', (∀ j, rd S' 18 j = rd S 18 j) → (∀ j, rd S' 69 j = rd S 69 j) → f_X1_knows v S' = some (1, S') ∧ f_X11_isLine v S' = some (1, S') := by
  rcases bl v 8 (by decide) (by decide) with h | ⟨l, hl, rfl, h⟩
  · left
    intro S' _ _
    obtain ⟨h1, h2⟩ := h S'
    unfold f_X1_knows f_X11_isLine
    rw [show f_X10_below v 8 S' = _ from h1, show f_X11_in v 0 7 S' = _ from h2]
    exact ⟨rfl, rfl⟩
  · obtain ⟨e1, e2, e3, -⟩ := hI.2 l hl
    by_cases c : nv S 18 l = 0
    · left
      intro S' g1 g2
      obtain ⟨h1, h2⟩ := h S'
      unfold f_X1_knows f_X11_isLine
      rw [show f_X10_below (nI l) 8 S' = _ from h1, show f_X11_in (nI l) 0 7 S' = _ from h2]
      simp (disch := omega) only [md_n, lt_eq, bd_some, gN, gN2, le_T, le_F, lt_T, lt_F, eq_T, eq_F, cN, plus_n, mul_n, rem_n, div_n, sub_n, re_T, re_F, rl_wr, rd_wl, ne_m1, m1_ne, m1_lt, m1_le, m1_ge, m1_gt, m1_refl, ↓reduceIte, L0, L1, L2, L3, L4, L5, L6, L7, L8, L9, L10, L11, L15, L16, L17, L18, L20, L24, L26, L28, L31, L32, L35, L36, L48, L57, L59, L63, L64, L96, L97, L99, L100, L112, L122, L128, L200, L255, L256, L1000, L1024, L2000, L3000, L1000000, L1000000007, g1, g2, e1, e3]
      exact ⟨trivial, trivial⟩
    · right
      refine ⟨l, hl, rfl, by omega, fun S' g1 g2 => ?_⟩
      obtain ⟨h1, h2⟩ := h S'
      unfold f_X1_knows f_X11_isLine
      rw [show f_X10_below (nI l) 8 S' = _ from h1, show f_X11_in (nI l) 0 7 S' = _ from h2]
      simp (disch := omega) only [md_n, lt_eq, bd_some, gN, gN2, le_T, le_F, lt_T, lt_F, eq_T, eq_F, cN, plus_n, mul_n, rem_n, div_n, sub_n, re_T, re_F, rl_wr, rd_wl, ne_m1, m1_ne, m1_lt, m1_le, m1_ge, m1_gt, m1_refl, ↓reduceIte, L0, L1, L2, L3, L4, L5, L6, L7, L8, L9, L10, L11, L15, L16, L17, L18, L20, L24, L26, L28, L31, L32, L35, L36, L48, L57, L59, L63, L64, L96, L97, L99, L100, L112, L122, L128, L200, L255, L256, L1000, L1024, L2000, L3000, L1000000, L1000000007, g1, g2, e1, e3]
      exact ⟨trivial, trivial⟩
def sndAt (S : St) : List Nat → Nat → Int32
  | [], _ => -1
  | w :: ws, i => if i < nv S 16 w then nI (wx S w / 16 ^ i % 16) else sndAt S ws (i - nv S 16 w)
def lenN (S : St) : List Nat → Nat
  | [] => 0
  | w :: ws => nv S 16 w + lenN S ws
theorem drop_at {L : List Nat} {i : Nat} (h : i < L.length) : L.drop i = L.getD i 0 :: L.drop (i + 1) := by
  rw [List.drop_eq_getElem_cons h, List.getD_eq_getElem?_getD, List.getElem?_eq_getElem h]; rfl
theorem lenN_le {S : St} {L : List Nat} (hI : I_lex S) (h : ∀ w ∈ L, w < 32) : lenN S L ≤ 8 * L.length := by
  induction L with
  | nil => exact Nat.le_refl _
  | cons w ws ih =>
    have := ih (fun x hx => h x (List.mem_cons_of_mem _ hx))
    have := (hI.1 w (h w List.mem_cons_self)).2.1
    rw [lenN, List.length_cons]; omega
theorem spokenLength_ok {S S' : St} {L : List Nat} (hI : I_lex S) (hL : L.length ≤ 16) (hw : ∀ w ∈ L, w < 32) (h : hasL S' 19 14 5 L) (h16 : ∀ w, rd S' 16 w = rd S 16 w) : f_X1_spokenLength S' = some (nI (lenN S L), S') := by
  unfold f_X1_spokenLength
  have hlen := lenN_le hI hw
  refine loopC (fun f (n : Nat) i => f_X1_spokenLength_L4 (fun x10 S11 => some (x10, S11)) f (nI n) (nI i) S') (fun x => x = some (nI (lenN S L), S')) (fun i n => n + lenN S (L.drop i) = lenN S L) L.length ?_ ?_ L.length 0 FU 0 (by omega) (by unfold FU; omega) (by simp)
  · intro f n hn
    have e1 := h.1
    rw [List.drop_length, lenN, Nat.add_zero] at hn
    show f_X1_spokenLength_L4 _ _ _ _ _ = _
    rw [f_X1_spokenLength_L4, hn]
    simp (disch := omega) only [md_n, lt_eq, bd_some, gN, gN2, le_T, le_F, lt_T, lt_F, eq_T, eq_F, cN, plus_n, mul_n, rem_n, div_n, sub_n, re_T, re_F, rl_wr, rd_wl, ne_m1, m1_ne, m1_lt, m1_le, m1_ge, m1_gt, m1_refl, ↓reduceIte, L0, L1, L2, L3, L4, L5, L6, L7, L8, L9, L10, L11, L15, L16, L17, L18, L20, L24, L26, L28, L31, L32, L35, L36, L48, L57, L59, L63, L64, L96, L97, L99, L100, L112, L122, L128, L200, L255, L256, L1000, L1024, L2000, L3000, L1000000, L1000000007, e1]
  · intro f n i hi hn
    have e1 := h.1
    have e2 := h.2 i hi
    have e3 : L.getD i 0 < 32 := hw _ (by rw [List.getD_eq_getElem?_getD, List.getElem?_eq_getElem hi]; exact List.getElem_mem hi)
    obtain ⟨w1, w2, -⟩ := hI.1 _ e3
    have e4 : rd S' 16 (L.getD i 0) = nI (nv S 16 (L.getD i 0)) := by rw [h16]; exact w1
    rw [drop_at hi, lenN] at hn
    refine Or.inr ⟨n + nv S 16 (L.getD i 0), ?_, by omega⟩
    show f_X1_spokenLength_L4 _ _ _ _ _ = _
    rw [f_X1_spokenLength_L4]
    simp (disch := omega) only [md_n, lt_eq, bd_some, gN, gN2, le_T, le_F, lt_T, lt_F, eq_T, eq_F, cN, plus_n, mul_n, rem_n, div_n, sub_n, re_T, re_F, rl_wr, rd_wl, ne_m1, m1_ne, m1_lt, m1_le, m1_ge, m1_gt, m1_refl, ↓reduceIte, L0, L1, L2, L3, L4, L5, L6, L7, L8, L9, L10, L11, L15, L16, L17, L18, L20, L24, L26, L28, L31, L32, L35, L36, L48, L57, L59, L63, L64, L96, L97, L99, L100, L112, L122, L128, L200, L255, L256, L1000, L1024, L2000, L3000, L1000000, L1000000007, e1, e2, e4]
theorem spokenSound_ok {S S' : St} {L : List Nat} {q : Nat} (hI : I_lex S) (hq : q < 2147483648) (hL : L.length ≤ 16) (hw : ∀ w ∈ L, w < 32) (h : hasL S' 19 14 5 L) (h16 : ∀ w, rd S' 16 w = rd S 16 w) (h15 : ∀ w, rd S' 15 w = rd S 15 w) : f_X1_spokenSound (nI q) S' = some (sndAt S L q, S') := by
  unfold f_X1_spokenSound
  refine loopC (fun f (n : Nat) i => f_X1_spokenSound_L4 _ _ f (nI n) (nI i) S') (fun x => x = some (sndAt S L q, S')) (fun i n => n < 2147483648 ∧ sndAt S (L.drop i) n = sndAt S L q) L.length ?_ ?_ L.length 0 FU q (by omega) (by unfold FU; omega) ⟨hq, rfl⟩
  · intro f n ⟨_, hn⟩
    have e1 := h.1
    rw [List.drop_length, sndAt] at hn
    show f_X1_spokenSound_L4 _ _ _ _ _ _ = _
    rw [f_X1_spokenSound_L4, ← hn]
    simp (disch := omega) only [md_n, lt_eq, bd_some, gN, gN2, le_T, le_F, lt_T, lt_F, eq_T, eq_F, cN, plus_n, mul_n, rem_n, div_n, sub_n, re_T, re_F, rl_wr, rd_wl, ne_m1, m1_ne, m1_lt, m1_le, m1_ge, m1_gt, m1_refl, ↓reduceIte, L0, L1, L2, L3, L4, L5, L6, L7, L8, L9, L10, L11, L15, L16, L17, L18, L20, L24, L26, L28, L31, L32, L35, L36, L48, L57, L59, L63, L64, L96, L97, L99, L100, L112, L122, L128, L200, L255, L256, L1000, L1024, L2000, L3000, L1000000, L1000000007, e1]
  · intro f n i hi ⟨hn0, hn⟩
    have e1 := h.1
    have e2 := h.2 i hi
    have e3 : L.getD i 0 < 32 := hw _ (by rw [List.getD_eq_getElem?_getD, List.getElem?_eq_getElem hi]; exact List.getElem_mem hi)
    have hk := hI.1 _ e3
    obtain ⟨w1, w2, -⟩ := hk
    have e4 : rd S' 16 (L.getD i 0) = nI (nv S 16 (L.getD i 0)) := by rw [h16]; exact w1
    rw [drop_at hi, sndAt] at hn
    by_cases c : n < nv S 16 (L.getD i 0)
    · left
      rw [if_pos c] at hn
      have e5 : f_X1_soundOf (nI (L.getD i 0)) (nI n) S' = some (nI (wx S (L.getD i 0) / 16 ^ n % 16), S') := by
        unfold f_X1_soundOf
        rw [gd_t (inb_n e3 (by decide)), cl_n (by omega), h15, (hI.1 _ e3).x.2, snd_n (hI.1 _ e3).x.1 (by omega)]
      show f_X1_spokenSound_L4 _ _ _ _ _ _ = _
      rw [f_X1_spokenSound_L4, ← hn]
      simp (disch := omega) only [md_n, lt_eq, bd_some, gN, gN2, le_T, le_F, lt_T, lt_F, eq_T, eq_F, cN, plus_n, mul_n, rem_n, div_n, sub_n, re_T, re_F, rl_wr, rd_wl, ne_m1, m1_ne, m1_lt, m1_le, m1_ge, m1_gt, m1_refl, ↓reduceIte, L0, L1, L2, L3, L4, L5, L6, L7, L8, L9, L10, L11, L15, L16, L17, L18, L20, L24, L26, L28, L31, L32, L35, L36, L48, L57, L59, L63, L64, L96, L97, L99, L100, L112, L122, L128, L200, L255, L256, L1000, L1024, L2000, L3000, L1000000, L1000000007, e1, e2, e4, e5]
    · right
      rw [if_neg c] at hn
      refine ⟨n - nv S 16 (L.getD i 0), ?_, by omega, hn⟩
      show f_X1_spokenSound_L4 _ _ _ _ _ _ = _
      rw [f_X1_spokenSound_L4]
      simp (disch := omega) only [md_n, lt_eq, bd_some, gN, gN2, le_T, le_F, lt_T, lt_F, eq_T, eq_F, cN, plus_n, mul_n, rem_n, div_n, sub_n, re_T, re_F, rl_wr, rd_wl, ne_m1, m1_ne, m1_lt, m1_le, m1_ge, m1_gt, m1_refl, ↓reduceIte, L0, L1, L2, L3, L4, L5, L6, L7, L8, L9, L10, L11, L15, L16, L17, L18, L20, L24, L26, L28, L31, L32, L35, L36, L48, L57, L59, L63, L64, L96, L97, L99, L100, L112, L122, L128, L200, L255, L256, L1000, L1024, L2000, L3000, L1000000, L1000000007, e1, e2, e4]
