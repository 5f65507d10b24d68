theorem startM_ok {S a : St} {c : Nat} {L : List Nat} (hI : I_lex S) (hX : ∀ w, rd a 67 w = rd S 67 w) (hL : L.length ≤ 16) (hL1 : 1 ≤ L.length) (hw : ∀ w ∈ L, w < 32) (h : hasL a 71 54 26 L) (hc : c < 24) (K : Int32 → St → Option (Unit × St)) :
    ∃ a', f_X11_start_L67 K (nI c) FU (nI 0) (nI 0) a = K (nI (lastE (ends S L 0))) a' ∧ (∀ i, i < 16 → rd a' 86 (16 * c + i) = if i < L.length then nI ((ends S L 0).getD i 0) else -1) ∧ fr (fun k j => k = 86 ∧ 16 * c ≤ j ∧ j < 16 * c + 16) a a' := by
  have hlast : lastE (ends S L 0) = psum S L L.length := by
    unfold lastE
    rw [ends_len, ends_get S L 0 _ (by omega), show L.length - 1 + 1 = L.length by omega, Nat.zero_add]
  have hps : ∀ i, L.length ≤ i → psum S L i = psum S L L.length := fun i hi => by unfold psum; rw [List.take_of_length_le hi, List.take_of_length_le (Nat.le_refl _)]
  refine loopC (fun f (x : Nat × St) i => f_X11_start_L67 K (nI c) f (nI x.1) (nI i) x.2) (fun y => ∃ a', y = K (nI (lastE (ends S L 0))) a' ∧ (∀ i, i < 16 → rd a' 86 (16 * c + i) = if i < L.length then nI ((ends S L 0).getD i 0) else -1) ∧ fr (fun k j => k = 86 ∧ 16 * c ≤ j ∧ j < 16 * c + 16) a a')
    (fun i x => x.1 = psum S L i ∧ (∀ j, j < i → rd x.2 86 (16 * c + j) = if j < L.length then nI ((ends S L 0).getD j 0) else -1) ∧ fr (fun k j => k = 86 ∧ 16 * c ≤ j ∧ j < 16 * c + 16) a x.2) 16 ?_ ?_ 16 0 FU (0, a) (by omega) (by unfold FU; omega) ⟨rfl, fun j hj => by omega, fr.refl _ _⟩
  · rintro f ⟨s, b⟩ ⟨h1, h2, h3⟩
    replace h1 : s = psum S L 16 := h1
    refine ⟨b, ?_, h2, h3⟩
    show f_X11_start_L67 _ _ _ _ _ _ = _
    rw [f_X11_start_L67, h1, hps 16 hL, hlast]
    simp (disch := omega) only [md_n, lt_eq, bd_some, gN, gN2, le_T, le_F, lt_T, lt_F, eq_T, eq_F, cN, plus_n, mul_n, rem_n, div_n, sub_n, re_T, re_F, rl_wr, rd_wl, ne_m1, m1_ne, m1_lt, m1_le, m1_ge, m1_gt, m1_refl, ↓reduceIte, L0, L1, L2, L3, L4, L5, L6, L7, L8, L9, L10, L11, L15, L16, L17, L18, L20, L24, L26, L28, L31, L32, L35, L36, L48, L57, L59, L63, L64, L96, L97, L99, L100, L112, L122, L128, L200, L255, L256, L1000, L1024, L2000, L3000, L1000000, L1000000007]
  · rintro f ⟨s, b⟩ i hi ⟨h1, h2, h3⟩
    replace h1 : s = psum S L i := h1
    replace h2 : ∀ j, j < i → rd b 86 (16 * c + j) = if j < L.length then nI ((ends S L 0).getD j 0) else -1 := h2
    replace h3 : fr (fun k j => k = 86 ∧ 16 * c ≤ j ∧ j < 16 * c + 16) a b := h3
    have e1 : rd b 54 26 = nI L.length := by rw [h3 _ _ (by omega)]; exact h.1
    have hle := psum_le (S := S) hI hw (i + 1)
    have hle0 := psum_le (S := S) hI hw i
    right
    by_cases d : i < L.length
    · have e2 : rd b 71 i = nI (L.getD i 0) := by rw [h3 _ _ (by omega)]; exact h.2 i d
      have e3 := hw _ (mem_at d)
      obtain ⟨w1, w2, w3, -⟩ := hI.1 _ e3
      have e4 : rd b 67 (L.getD i 0) = nI (nv S 16 (L.getD i 0)) := by rw [h3 _ _ (by omega), hX]; exact w3
      have hp := psum_s S d
      refine ⟨(psum S L (i + 1), wr b 86 (16 * c + i) (nI (psum S L (i + 1)))), ?_, rfl, fun j hj => ?_, h3.wr (by omega)⟩
      · show f_X11_start_L67 _ _ _ _ _ _ = f_X11_start_L67 _ _ _ (nI (psum S L (i + 1))) _ (wr b 86 (16 * c + i) (nI (psum S L (i + 1))))
        rw [f_X11_start_L67, h1, hp]
        simp (disch := omega) only [md_n, lt_eq, bd_some, gN, gN2, le_T, le_F, lt_T, lt_F, eq_T, eq_F, cN, plus_n, mul_n, rem_n, div_n, sub_n, re_T, re_F, rl_wr, rd_wl, ne_m1, m1_ne, m1_lt, m1_le, m1_ge, m1_gt, m1_refl, ↓reduceIte, L0, L1, L2, L3, L4, L5, L6, L7, L8, L9, L10, L11, L15, L16, L17, L18, L20, L24, L26, L28, L31, L32, L35, L36, L48, L57, L59, L63, L64, L96, L97, L99, L100, L112, L122, L128, L200, L255, L256, L1000, L1024, L2000, L3000, L1000000, L1000000007, e1, e2, e4]
      · show rd (wr b 86 (16 * c + i) (nI (psum S L (i + 1)))) 86 (16 * c + j) = _
        by_cases k : j = i
        · subst k; rw [rw_eq, if_pos d, ends_get S L 0 j d, Nat.zero_add]
        · rw [rw_ne (by omega)]; exact h2 j (by omega)
    · refine ⟨(psum S L (i + 1), wr b 86 (16 * c + i) (-nI 1)), ?_, rfl, fun j hj => ?_, h3.wr (by omega)⟩
      · show f_X11_start_L67 _ _ _ _ _ _ = f_X11_start_L67 _ _ _ (nI (psum S L (i + 1))) _ (wr b 86 (16 * c + i) (-nI 1))
        rw [f_X11_start_L67, h1, hps i (by omega), hps (i + 1) (by omega)]
        simp (disch := omega) only [md_n, lt_eq, bd_some, gN, gN2, le_T, le_F, lt_T, lt_F, eq_T, eq_F, cN, plus_n, mul_n, rem_n, div_n, sub_n, re_T, re_F, rl_wr, rd_wl, ne_m1, m1_ne, m1_lt, m1_le, m1_ge, m1_gt, m1_refl, ↓reduceIte, L0, L1, L2, L3, L4, L5, L6, L7, L8, L9, L10, L11, L15, L16, L17, L18, L20, L24, L26, L28, L31, L32, L35, L36, L48, L57, L59, L63, L64, L96, L97, L99, L100, L112, L122, L128, L200, L255, L256, L1000, L1024, L2000, L3000, L1000000, L1000000007, e1, Nat.add_zero]
      · show rd (wr b 86 (16 * c + i) (-nI 1)) 86 (16 * c + j) = _
        by_cases k : j = i
        · subst k; rw [rw_eq, if_neg d]; rfl
        · rw [rw_ne (by omega)]; exact h2 j (by omega)
theorem beginM_ok {S a : St} {n T : Nat} {A : Ast} {c : Nat} (hS : Still S n T) (hf : fr XcM S a) (hw : wf S n A) (hR : repM n T A a) (hc : c < n) (h0 : A.st c = 0) :
    ∃ a', f_X11_start (nI c) a = some ((), a') ∧ repM n T (beg S T c A) a' ∧ fr XcM S a' := by
  have h24 := hS.1
  obtain ⟨⟨p1, -, p2⟩, ⟨l1, -, l2, l3⟩, ⟨n1, -, n2⟩, -⟩ := hS.2.2.1 c hc
  have hX : I_lex S := hS.2.2.2.2.2.1
  have hV : I_vox S := hS.2.2.2.2.1
  obtain ⟨f1, f2, f3, f4⟩ := spk_facts hX l1 n1
  have el : rd a 76 c = nI (li S c) := by rw [hf _ _ (by unfold XcM Xsm Xm; omega)]; exact l2
  have en : rd a 77 c = nI (nu S c) := by rw [hf _ _ (by unfold XcM Xsm Xm; omega)]; exact n2
  obtain ⟨hs, hx, h34, h547⟩ := XcM_all hf
  have hI := hS.2.2.2.2.2.2.1
  have hcu := hS.2.2.2.2.2.2.2
  have hv4 := (hV.c p1).1
  obtain ⟨S1, a1, a2, a3, a4⟩ := speakM (S := a) (l := li S c) (v := nu S c) (y := vo S (pa S c)) (hs.I hI) (cut_of h34 h547 hcu) (hX.cg hx) l1 n1 hv4
  rw [spk_cg hx, wtold_cg hx, fw_cg hs hI.1 (ct_of h34) hx] at a4
  rw [spk_cg hx, wtold_cg hx] at a1
  rw [spk_cg hx] at a3
  have hR1 : repM n T A S1 := hR.keep h24 (a2.mono (fun c j h => Or.inl h))
  have hf1 : fr XcM S S1 := hf.trans (a2.mono (fun c j h => by unfold XcM; exact Or.inr (Or.inr (Or.inl h))))
  have hmute : ∀ b, repM n T A b → fr XcM S b → mu S c = none → repM n T (beg S T c A) (wr b 81 c (5 : Int32)) ∧ fr XcM S (wr b 81 c (5 : Int32)) := fun b hb hfb hm => by
    refine ⟨?_, hfb.wr (by unfold XcM; omega)⟩
    unfold beg
    rw [hm]
    refine hb.st1 ((fr.refl _ _).wr rfl) (fun d hd hz => ?_) (fun d hd => ?_)
    · by_cases k : d = c
      · subst k; rw [fup_eq] at hz; omega
      · rw [fup_ne _ _ k] at hz; exact hz
    · by_cases k : d = c
      · subst k; rw [rw_eq, fup_eq]; rfl
      · rw [rw_ne (by omega), fup_ne _ _ k]; exact (hb.2.2 d hd).1
  unfold f_X11_start
  rw [gd_t (inb_n (show c < 24 by omega) (by decide)), gd_t (inb_n (show c < 24 by omega) (by decide))]
  simp only [cl_n (show c < 2147483648 by omega)]
  rw [el, en, a1, bd_some, lt_eq]
  by_cases ht : wtold S (spk S (li S c) (nu S c)) = true
  · obtain ⟨S2, b1, b2⟩ := a4 ht
    have hR2 : repM n T A S2 := hR1.keep h24 (b2.mono (fun c j h => Or.inr h))
    have hf2 : fr XcM S S2 := hf1.trans (b2.mono (fun c j h => by unfold XcM; exact Or.inr (Or.inr (Or.inr h))))
    have e44 : rd S1 73 (pa S c) = nI (vo S (pa S c)) := by rw [hf1 _ _ (by unfold XcM Xsm Xm; omega)]; exact (hV.c p1).2.2.2.2.1
    have ep1 : rd S1 75 c = nI (pa S c) := by rw [hf1 _ _ (by unfold XcM Xsm Xm; omega)]; exact p2
    rw [ht, if_neg (by decide), gd_t (inb_n (show c < 24 by omega) (by decide)), ep1, gd_t (inb_n p1 (by decide)), cl_n (by omega), e44, b1, bd_some]
    by_cases hj : jarR (fw S (vo S (pa S c))) (spk S (li S c) (nu S c)) 0 = -1
    · have hmu : mu S c = none := by unfold mu; rw [if_pos ht, if_pos hj]
      obtain ⟨m1, m2⟩ := hmute S2 hR2 hf2 hmu
      exact ⟨_, by rw [if_pos hj]; exact gd_t (inb_n (show c < 24 by omega) (by decide)), m1, m2⟩
    · have hmu : mu S c = some (ends S (spk S (li S c) (nu S c)) 0) := by unfold mu; rw [if_pos ht, if_neg hj]
      have e8 : rd S2 54 31 = nI T := hR2.2.1
      have hL2 : hasL S2 71 54 26 (spk S (li S c) (nu S c)) := ⟨by rw [b2 _ _ (by unfold Xm; omega)]; exact a3.1, fun i hi => by rw [b2 _ _ (by unfold Xm; omega)]; exact a3.2 i hi⟩
      rw [if_neg hj, gd_t (inb_n (show c < 24 by omega) (by decide)), lt_eq, gd_t (inb_n (show c < 24 by omega) (by decide)), lt_eq, rw_ne (by omega), e8]
      generalize hS3 : wr (wr S2 81 c (1 : Int32)) 83 c (nI T) = S3
      have c3 : fr (fun k j => (k = 81 ∨ k = 83) ∧ j = c) S2 S3 := by rw [← hS3]; exact ((fr.refl _ _).wr (by omega)).wr (by omega)
      have hf3 : fr XcM S S3 := hf2.trans (c3.mono (fun k j h => by unfold XcM; omega))
      obtain ⟨S4, d1, d2, d3⟩ := startM_ok (S := S) (a := S3) (c := c) hX (fun w => hf3 _ _ (by unfold XcM Xsm Xm; omega)) f1 (by omega) f3 ⟨by rw [c3 _ _ (by omega)]; exact hL2.1, fun i hi => by rw [c3 _ _ (by omega)]; exact hL2.2 i hi⟩ (by omega) (fun (x46 : Int32) (S47 : St) => gd_ (inb (nI c) 24) <| lt_ (wr S47 85 c x46) fun S48 => some ((), S48))
      refine ⟨wr S4 85 c (nI (lastE (ends S (spk S (li S c) (nu S c)) 0))), ?_, ?_, (hf3.trans (d3.mono (fun k j h => by unfold XcM; omega))).wr (by unfold XcM; omega)⟩
      · refine d1.trans ?_
        rw [gd_t (inb_n (show c < 24 by omega) (by decide)), lt_eq]
      · generalize hS5 : wr S4 85 c (nI (lastE (ends S (spk S (li S c) (nu S c)) 0))) = S5
        have d7 : fr (fun k j => ((k = 81 ∨ k = 83 ∨ k = 85) ∧ j = c) ∨ (k = 86 ∧ 16 * c ≤ j ∧ j < 16 * c + 16)) S2 S5 := by rw [← hS5]; exact ((c3.mono (fun k j h => by omega)).trans (d3.mono (fun k j h => by omega))).wr (by omega)
        obtain ⟨g1, g2, g4⟩ := hR2
        unfold beg
        rw [hmu]
        refine ⟨by rw [d7 _ _ (by omega)]; exact g1, by rw [d7 _ _ (by omega)]; exact g2, fun d hd => ?_⟩
        obtain ⟨k1, k2, k3, k4, k5⟩ := g4 d hd
        by_cases k : d = c
        · subst k
          refine ⟨?_, by rw [d7 _ _ (by omega)]; exact k2, ?_, by rw [d7 _ _ (by omega)]; exact k4, fun _ => ?_⟩
          · show rd S5 81 d = nI (fup A.st d 1 d); rw [fup_eq, ← hS5, rw_ne (by omega), d3 _ _ (by omega), ← hS3, rw_ne (by omega), rw_eq]; rfl
          · show rd S5 83 d = fup A.bg d (nI T) d; rw [fup_eq, ← hS5, rw_ne (by omega), d3 _ _ (by omega), ← hS3, rw_eq]
          · show rd S5 85 d = nI (lastE (fup A.en d _ d)) ∧ ∀ i, i < 16 → rd S5 86 (16 * d + i) = if i < (fup A.en d _ d).length then nI ((fup A.en d _ d).getD i 0) else -1
            rw [fup_eq, ends_len]
            exact ⟨by rw [← hS5, rw_eq], fun i hi => by rw [← hS5, rw_ne (by omega)]; exact d2 i hi⟩
        · refine ⟨?_, by rw [d7 _ _ (by omega)]; exact k2, ?_, by rw [d7 _ _ (by omega)]; exact k4, fun z => ?_⟩
          · show _ = nI (fup A.st c 1 d); rw [fup_ne _ _ k, d7 _ _ (by omega)]; exact k1
          · show _ = fup A.bg c (nI T) d; rw [fup_ne _ _ k, d7 _ _ (by omega)]; exact k3
          · have z' : fup A.st c 1 d = 1 := z
            rw [fup_ne _ _ k] at z'
            show rd S5 85 d = nI (lastE (fup A.en c _ d)) ∧ ∀ i, i < 16 → rd S5 86 (16 * d + i) = if i < (fup A.en c _ d).length then nI ((fup A.en c _ d).getD i 0) else -1
            rw [fup_ne _ _ k, d7 _ _ (by omega)]
            obtain ⟨m1, m2⟩ := k5 z'
            exact ⟨m1, fun i hi => by rw [d7 _ _ (by omega)]; exact m2 i hi⟩
  · have hmu : mu S c = none := by unfold mu; rw [if_neg ht]
    obtain ⟨m1, m2⟩ := hmute S1 hR1 hf1 hmu
    exact ⟨_, by rw [Bool.eq_false_iff.mpr ht, if_pos (by decide)]; exact gd_t (inb_n (show c < 24 by omega) (by decide)), m1, m2⟩
