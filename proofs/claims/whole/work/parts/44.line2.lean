/-! ===== line ===== -/
def lexD (c : Nat) : Prop := c = 15 ∨ c = 16 ∨ c = 17 ∨ c = 18 ∨ c = 67 ∨ c = 68 ∨ c = 69 ∨ c = 70
theorem lex_cg {S S' : St} (h : ∀ c j, lexD c → rd S' c j = rd S c j) : (∀ w, nv S' 16 w = nv S 16 w) ∧ (∀ w, wx S' w = wx S w) ∧ (∀ j, nv S' 17 j = nv S 17 j) ∧ ∀ l, nv S' 18 l = nv S 18 l := by
  refine ⟨fun w => ?_, fun w => ?_, fun w => ?_, fun w => ?_⟩
  · unfold nv; rw [h 16 w (by unfold lexD; omega)]
  · unfold wx; rw [h 15 w (by unfold lexD; omega)]
  · unfold nv; rw [h 17 w (by unfold lexD; omega)]
  · unfold nv; rw [h 18 w (by unfold lexD; omega)]
theorem I_lex.cg {S S' : St} (hI : I_lex S) (h : ∀ c j, lexD c → rd S' c j = rd S c j) : I_lex S' := by
  obtain ⟨h1, h2, h3, h4⟩ := lex_cg h
  refine ⟨fun w hw => ?_, fun l hl => ?_⟩
  · obtain ⟨a1, a2, a3, a4, a5⟩ := hI.1 w hw
    refine ⟨?_, ?_, ?_, ?_, fun j hj => ?_⟩
    · rw [h1, h 16 w (by unfold lexD; omega)]; exact a1
    · rw [h1]; exact a2
    · rw [h1, h 67 w (by unfold lexD; omega)]; exact a3
    · rw [h1, h2]; exact a4
    · rw [h2, h 68 _ (by unfold lexD; omega)]; exact a5 j (by rw [h1] at hj; exact hj)
  · obtain ⟨a1, a2, a3, a5⟩ := hI.2 l hl
    refine ⟨?_, ?_, ?_, fun j hj => ?_⟩
    · rw [h4, h 18 l (by unfold lexD; omega)]; exact a1
    · rw [h4]; exact a2
    · rw [h4, h 69 l (by unfold lexD; omega)]; exact a3
    · rw [h3, h 17 _ (by unfold lexD; omega), h 70 _ (by unfold lexD; omega)]; exact a5 j (by rw [h4] at hj; exact hj)
theorem spkN_cg {S S' : St} (h : ∀ c j, lexD c → rd S' c j = rd S c j) (l v k : Nat) : spkN S' l v k = spkN S l v k := by
  induction k with
  | zero => rfl
  | succ k ih => rw [spkN, spkN, ih, (lex_cg h).2.2.1]
theorem spk_cg {S S' : St} (h : ∀ c j, lexD c → rd S' c j = rd S c j) (l v : Nat) : spk S' l v = spk S l v := by
  unfold spk; rw [(lex_cg h).2.2.2, spkN_cg h]
theorem wtold_cg {S S' : St} (h : ∀ c j, lexD c → rd S' c j = rd S c j) (L : List Nat) : wtold S' L = wtold S L := by
  unfold wtold
  rw [show (fun w => nv S' 16 w != 0) = fun w => nv S 16 w != 0 by funext w; rw [(lex_cg h).1]]
theorem sndAt_cg {S S' : St} (h : ∀ c j, lexD c → rd S' c j = rd S c j) (L : List Nat) : ∀ i, sndAt S' L i = sndAt S L i := by
  induction L with
  | nil => intro i; rfl
  | cons w ws ih => intro i; rw [sndAt, sndAt, (lex_cg h).1, (lex_cg h).2.1, ih]
theorem lenN_cg {S S' : St} (h : ∀ c j, lexD c → rd S' c j = rd S c j) (L : List Nat) : lenN S' L = lenN S L := by
  induction L with
  | nil => rfl
  | cons w ws ih => rw [lenN, lenN, (lex_cg h).1, ih]
theorem told_at {S : St} {L : List Nat} (h : wtold S L = true) {i : Nat} (hi : i < L.length) : 1 ≤ nv S 16 (L.getD i 0) := by
  unfold wtold at h
  rw [List.all_eq_true] at h
  have := h (L.getD i 0) (by rw [List.getD_eq_getElem?_getD, List.getElem?_eq_getElem hi]; exact List.getElem_mem hi)
  have := bne_iff_ne.mp this
  omega
theorem mem_at {L : List Nat} {i : Nat} (hi : i < L.length) : L.getD i 0 ∈ L := by
  rw [List.getD_eq_getElem?_getD, List.getElem?_eq_getElem hi]; exact List.getElem_mem hi
theorem Xsc_lex {S S' : St} (h : fr Xsc S S') : ∀ c j, lexD c → rd S' c j = rd S c j := fun c j hc => h c j (by unfold lexD at hc; unfold Xsc; omega)
theorem Xsm_lex {S S' : St} (h : fr Xsm S S') : ∀ c j, lexD c → rd S' c j = rd S c j := fun c j hc => h c j (by unfold lexD at hc; unfold Xsm; omega)
theorem lineM1_ok {S S' : St} {L : List Nat} (hI : I_lex S) (hL : L.length ≤ 16) (hw : ∀ w ∈ L, w < 32) (ht : wtold S L = true) (h : hasL S' 71 54 26 L) (h67 : ∀ w, rd S' 67 w = rd S 67 w) (K : Int32 → Int32 → St → Option (Int32 × St)) (K2 : Int32 → St → Option (Int32 × St)) : f_X11_line_L47 K K2 (-1) FU (nI 0) (nI 0) S' = K2 (nI (lenN S L)) S' := by
  have hlen := lenN_le hI hw
  refine loopC (fun f (n : Nat) i => f_X11_line_L47 K K2 (-1) f (nI n) (nI i) S') (fun x => x = K2 (nI (lenN S L)) S') (fun i n => n + lenN S (L.drop i) = lenN S L) L.length ?_ ?_ L.length 0 FU 0 (by omega) (by unfold FU; omega) (by simp)
  · intro f n hn
    have e1 := h.1
    rw [List.drop_length, lenN, Nat.add_zero] at hn
    show f_X11_line_L47 _ _ _ _ _ _ _ = _
    rw [f_X11_line_L47, hn]
    simp (disch := omega) only [md_n, lt_eq, bd_some, gN, gN2, le_T, le_F, lt_T, lt_F, eq_T, eq_F, cN, plus_n, mul_n, rem_n, div_n, sub_n, re_T, re_F, rl_wr, rd_wl, ne_m1, m1_ne, m1_lt, m1_le, m1_ge, m1_gt, m1_refl, ↓reduceIte, L0, L1, L2, L3, L4, L5, L6, L7, L8, L9, L10, L11, L15, L16, L17, L18, L20, L24, L26, L28, L31, L32, L35, L36, L48, L57, L59, L63, L64, L96, L97, L99, L100, L112, L122, L128, L200, L255, L256, L1000, L1024, L2000, L3000, L1000000, L1000000007, e1]
  · intro f n i hi hn
    have e1 := h.1
    have e2 := h.2 i hi
    have e3 : L.getD i 0 < 32 := hw _ (mem_at hi)
    obtain ⟨w1, w2, w3, -⟩ := hI.1 _ e3
    have e4 : rd S' 67 (L.getD i 0) = nI (nv S 16 (L.getD i 0)) := by rw [h67]; exact w3
    have e5 := told_at ht hi
    rw [drop_at hi, lenN] at hn
    refine Or.inr ⟨n + nv S 16 (L.getD i 0), ?_, by omega⟩
    show f_X11_line_L47 _ _ _ _ _ _ _ = _
    rw [f_X11_line_L47]
    simp (disch := omega) only [md_n, lt_eq, bd_some, gN, gN2, le_T, le_F, lt_T, lt_F, eq_T, eq_F, cN, plus_n, mul_n, rem_n, div_n, sub_n, re_T, re_F, rl_wr, rd_wl, ne_m1, m1_ne, m1_lt, m1_le, m1_ge, m1_gt, m1_refl, ↓reduceIte, L0, L1, L2, L3, L4, L5, L6, L7, L8, L9, L10, L11, L15, L16, L17, L18, L20, L24, L26, L28, L31, L32, L35, L36, L48, L57, L59, L63, L64, L96, L97, L99, L100, L112, L122, L128, L200, L255, L256, L1000, L1024, L2000, L3000, L1000000, L1000000007, e1, e2, e4, f_X11_in]
theorem lineM_ok {S S' : St} {L : List Nat} {q : Nat} (hI : I_lex S) (hq : q < 2147483648) (hL : L.length ≤ 16) (hw : ∀ w ∈ L, w < 32) (ht : wtold S L = true) (h : hasL S' 71 54 26 L) (h67 : ∀ w, rd S' 67 w = rd S 67 w) (h68 : ∀ w, rd S' 68 w = rd S 68 w) :
    f_X11_line_L47
            (fun (x27 : Int32) (x28 : Int32) (S29 : St) =>
              gd_ (inb x28 16) <|
              gd_ (inb ((((8 : Int32) * (rd S29 71 (Int32.toNatClampNeg x28))) + nI q) - x27) 256) <|
              some ((rd S29 68 (Int32.toNatClampNeg ((((8 : Int32) * (rd S29 71 (Int32.toNatClampNeg x28))) + nI q) - x27))), S29))
            (fun (x32 : Int32) (S33 : St) =>
              if nI q = (-1 : Int32) then
                some (x32, S33)
              else
                some ((-1 : Int32), S33)) (nI q) FU (nI 0) (nI 0) S' = some (sndAt S L q, S') := by
  refine loopC (fun f (n : Nat) i => f_X11_line_L47 _ _ (nI q) f (nI n) (nI i) S') (fun x => x = some (sndAt S L q, S')) (fun i n => n ≤ q ∧ n ≤ 8 * i ∧ sndAt S (L.drop i) (q - n) = sndAt S L q) L.length ?_ ?_ L.length 0 FU 0 (by omega) (by unfold FU; omega) ⟨by omega, by omega, rfl⟩
  · intro f n ⟨_, _, hn⟩
    have e1 := h.1
    rw [List.drop_length, sndAt] at hn
    show f_X11_line_L47 _ _ _ _ _ _ _ = _
    rw [f_X11_line_L47, ← hn]
    simp (disch := omega) only [md_n, lt_eq, bd_some, gN, gN2, le_T, le_F, lt_T, lt_F, eq_T, eq_F, cN, plus_n, mul_n, rem_n, div_n, sub_n, re_T, re_F, rl_wr, rd_wl, ne_m1, m1_ne, m1_lt, m1_le, m1_ge, m1_gt, m1_refl, ↓reduceIte, L0, L1, L2, L3, L4, L5, L6, L7, L8, L9, L10, L11, L15, L16, L17, L18, L20, L24, L26, L28, L31, L32, L35, L36, L48, L57, L59, L63, L64, L96, L97, L99, L100, L112, L122, L128, L200, L255, L256, L1000, L1024, L2000, L3000, L1000000, L1000000007, e1]
  · intro f n i hi ⟨hn0, hn1, hn⟩
    have e1 := h.1
    have e2 := h.2 i hi
    have e3 : L.getD i 0 < 32 := hw _ (mem_at hi)
    obtain ⟨w1, w2, w3, -, w5⟩ := hI.1 _ e3
    have e4 : rd S' 67 (L.getD i 0) = nI (nv S 16 (L.getD i 0)) := by rw [h67]; exact w3
    have e5 := told_at ht hi
    rw [drop_at hi, sndAt] at hn
    by_cases c : q - n < nv S 16 (L.getD i 0)
    · left
      rw [if_pos c] at hn
      have e6 := w5 _ c
      rw [← h68, show 8 * L.getD i 0 + (q - n) = 8 * L.getD i 0 + q - n by omega] at e6
      show f_X11_line_L47 _ _ _ _ _ _ _ = _
      rw [f_X11_line_L47, ← hn]
      simp (disch := omega) only [md_n, lt_eq, bd_some, gN, gN2, le_T, le_F, lt_T, lt_F, eq_T, eq_F, cN, plus_n, mul_n, rem_n, div_n, sub_n, re_T, re_F, rl_wr, rd_wl, ne_m1, m1_ne, m1_lt, m1_le, m1_ge, m1_gt, m1_refl, ↓reduceIte, L0, L1, L2, L3, L4, L5, L6, L7, L8, L9, L10, L11, L15, L16, L17, L18, L20, L24, L26, L28, L31, L32, L35, L36, L48, L57, L59, L63, L64, L96, L97, L99, L100, L112, L122, L128, L200, L255, L256, L1000, L1024, L2000, L3000, L1000000, L1000000007, e1, e2, e4, e6, f_X11_in]
    · right
      rw [if_neg c] at hn
      refine ⟨n + nv S 16 (L.getD i 0), ?_, by omega, by omega, ?_⟩
      · show f_X11_line_L47 _ _ _ _ _ _ _ = _
        rw [f_X11_line_L47]
        simp (disch := omega) only [md_n, lt_eq, bd_some, gN, gN2, le_T, le_F, lt_T, lt_F, eq_T, eq_F, cN, plus_n, mul_n, rem_n, div_n, sub_n, re_T, re_F, rl_wr, rd_wl, ne_m1, m1_ne, m1_lt, m1_le, m1_ge, m1_gt, m1_refl, ↓reduceIte, L0, L1, L2, L3, L4, L5, L6, L7, L8, L9, L10, L11, L15, L16, L17, L18, L20, L24, L26, L28, L31, L32, L35, L36, L48, L57, L59, L63, L64, L96, L97, L99, L100, L112, L122, L128, L200, L255, L256, L1000, L1024, L2000, L3000, L1000000, L1000000007, e1, e2, e4, f_X11_in]
      · rw [← hn, Nat.sub_sub]
def Xsp (c j : Nat) : Prop := Xsc c j ∨ Xsm c j
theorem line_all (v1 v2 v3 : Int32) {S : St} (hI : I_lex S) : ∃ r S1 S2, f_X10_line v1 v2 v3 S = some (r, S1) ∧ f_X11_line v1 v2 v3 S1 = some (r, S2) ∧ fr Xsp S S2 := by
  unfold f_X10_line f_X11_line
  rcases knows_ok v1 hI with h | ⟨l, hl, rfl, hl0, h⟩
  · obtain ⟨h1, h2⟩ := h S (fun _ => rfl) (fun _ => rfl)
    exact ⟨-2, S, S, by rw [h1]; rfl, by rw [h2]; rfl, fr.refl _ _⟩
  obtain ⟨h1, -⟩ := h S (fun _ => rfl) (fun _ => rfl)
  rw [h1, bd_some, if_neg (by decide)]
  rcases bl v2 100 (by decide) (by decide) with g | ⟨v, hv, rfl, g⟩
  · obtain ⟨g1, g2⟩ := g S
    obtain ⟨-, h2⟩ := h S (fun _ => rfl) (fun _ => rfl)
    exact ⟨-3, S, S, by rw [show f_X10_below v2 100 S = _ from g1]; rfl, by rw [h2, bd_some, if_neg (by decide), show f_X11_in v2 0 99 S = _ from g2]; rfl, fr.refl _ _⟩
  obtain ⟨g1, -⟩ := g S
  rw [show f_X10_below (nI v) 100 S = _ from g1, bd_some, if_neg (by decide)]
  obtain ⟨f1, f2, f3, f4⟩ := spk_facts hI hl hv
  obtain ⟨S1, a1, a2, a3⟩ := spell_ok hI hl hv
  have hx1 := Xsc_lex a3
  have hI1 := hI.cg hx1
  obtain ⟨S2, b1, b2, b3⟩ := canSpeak_ok hI1 hl hv
  rw [spk_cg hx1, wtold_cg hx1] at b1
  rw [spk_cg hx1] at b2
  have hx2 := Xsm_lex b3
  have hF : fr Xsp S S2 := (a3.mono (fun _ _ h => Or.inl h)).trans (b3.mono (fun _ _ h => Or.inr h))
  rcases m1c v3 with c | rfl | ⟨q, hq, rfl⟩
  · obtain ⟨-, g2⟩ := g S
    obtain ⟨-, h2⟩ := h S (fun _ => rfl) (fun _ => rfl)
    exact ⟨-3, S, S, by rw [if_neg c], by rw [h2, bd_some, if_neg (by decide), show f_X11_in (nI v) 0 99 S = _ from g2, bd_some, if_neg (by decide), if_neg c], fr.refl _ _⟩
  all_goals
    obtain ⟨-, g2⟩ := g S1
    obtain ⟨-, h2⟩ := h S1 (fun j => hx1 18 j (by unfold lexD; omega)) (fun j => hx1 69 j (by unfold lexD; omega))
    rw [a1, bd_some]
    by_cases ht : wtold S (spk S l v) = true
    case neg =>
      refine ⟨-4, S1, S2, ?_, ?_, hF⟩
      · rw [Bool.eq_false_iff.mpr ht]; first | exact if_pos (by decide) | (rw [if_pos (show (-1 : Int32) ≤ nI q from of_eq_true (m1_le hq))]; exact if_pos (by decide))
      · rw [h2, bd_some, if_neg (by decide), show f_X11_in (nI v) 0 99 S1 = _ from g2, bd_some, if_neg (by decide), b1, bd_some, Bool.eq_false_iff.mpr ht]; first | exact if_pos (by decide) | (rw [if_pos (show (-1 : Int32) ≤ nI q from of_eq_true (m1_le hq))]; exact if_pos (by decide))
  · refine ⟨nI (lenN S (spk S l v)), S1, S2, ?_, ?_, hF⟩
    · rw [ht, if_pos (by decide), if_neg (by decide), if_pos rfl, spokenLength_ok hI f1 f3 a2 (fun w => hx1 16 w (by unfold lexD; omega))]; rfl
    · rw [h2, bd_some, if_neg (by decide), show f_X11_in (nI v) 0 99 S1 = _ from g2, bd_some, if_neg (by decide), if_pos (by decide), b1, bd_some, ht, if_neg (by decide)]
      refine (lineM1_ok hI1 f1 f3 (by rw [wtold_cg hx1]; exact ht) b2 (fun w => hx2 67 w (by unfold lexD; omega)) _ _).trans ?_
      rw [lenN_cg hx1, if_pos rfl]
  · have hq1 : (-1 : Int32) ≤ nI q := of_eq_true (m1_le hq)
    have hq2 : ¬ nI q = (-1 : Int32) := of_eq_false (ne_m1 hq)
    refine ⟨sndAt S (spk S l v) q, S1, S2, ?_, ?_, hF⟩
    · rw [ht, if_pos hq1, if_neg (by decide), if_neg hq2, spokenSound_ok hI hq f1 f3 a2 (fun w => hx1 16 w (by unfold lexD; omega)) (fun w => hx1 15 w (by unfold lexD; omega))]; rfl
    · rw [h2, bd_some, if_neg (by decide), show f_X11_in (nI v) 0 99 S1 = _ from g2, bd_some, if_neg (by decide), if_pos hq1, b1, bd_some, ht, if_neg (by decide)]
      have := lineM_ok hI1 hq f1 f3 (by rw [wtold_cg hx1]; exact ht) b2 (fun w => hx2 67 w (by unfold lexD; omega)) (fun w => hx2 68 w (by unfold lexD; omega))
      rw [sndAt_cg hx1] at this
      exact this
