theorem XcC_all {S a : St} (hf : fr XcC S a) : sameP S a ∧ (∀ c j, lexD c → rd a c j = rd S c j) ∧ rd a 3 4 = rd S 3 4 ∧ rd a 54 7 = rd S 54 7 := by
  refine ⟨fun c j hc => hf c j (by unfold pcA pcD at hc; unfold XcC Xsc Xw; omega), fun c j hc => hf c j (by unfold lexD at hc; unfold XcC Xsc Xw; omega), hf _ _ (by unfold XcC Xsc Xw; omega), hf _ _ (by unfold XcC Xsc Xw; omega)⟩
theorem XcM_all {S a : St} (hf : fr XcM S a) : sameP S a ∧ (∀ c j, lexD c → rd a c j = rd S c j) ∧ rd a 3 4 = rd S 3 4 ∧ rd a 54 7 = rd S 54 7 := by
  refine ⟨fun c j hc => hf c j (by unfold pcA pcD at hc; unfold XcM Xsm Xm; omega), fun c j hc => hf c j (by unfold lexD at hc; unfold XcM Xsm Xm; omega), hf _ _ (by unfold XcM Xsm Xm; omega), hf _ _ (by unfold XcM Xsm Xm; omega)⟩
theorem startC_ok {S a : St} {n T c : Nat} {L : List Nat} (hI : I_lex S) (hX : ∀ w, rd a 16 w = rd S 16 w) (hL : L.length ≤ 16) (hw : ∀ w ∈ L, w < 32) (h : hasL a 19 14 5 L) (hc : c < 24) :
    ∃ a', f_X0_start c (nI T) a = some ((), a') ∧ rd a' (300 + 2 * c) 11 = nI L.length ∧ rd a' (300 + 2 * c) 6 = nI 1 ∧ rd a' (300 + 2 * c) 8 = nI T ∧ (∀ i, i < L.length → rd a' (300 + 2 * c + 1) i = nI ((ends S L 0).getD i 0)) ∧ fr (fun k j => (k = 300 + 2 * c ∧ (j = 11 ∨ j = 6 ∨ j = 8)) ∨ k = 300 + 2 * c + 1) a a' := by
  unfold f_X0_start
  refine loopC (fun f (x : Nat × St) i => f_X0_start_L5 _ c (nI T) f (nI x.1) (nI i) x.2) (fun y => ∃ a', y = some ((), a') ∧ rd a' (300 + 2 * c) 11 = nI L.length ∧ rd a' (300 + 2 * c) 6 = nI 1 ∧ rd a' (300 + 2 * c) 8 = nI T ∧ (∀ i, i < L.length → rd a' (300 + 2 * c + 1) i = nI ((ends S L 0).getD i 0)) ∧ fr (fun k j => (k = 300 + 2 * c ∧ (j = 11 ∨ j = 6 ∨ j = 8)) ∨ k = 300 + 2 * c + 1) a a')
    (fun i x => x.1 = psum S L i ∧ (∀ j, j < i → rd x.2 (300 + 2 * c + 1) j = nI ((ends S L 0).getD j 0)) ∧ fr (fun k _ => k = 300 + 2 * c + 1) a x.2) L.length ?_ ?_ L.length 0 FU (0, a) (by omega) (by unfold FU; omega) ⟨rfl, fun j hj => by omega, fr.refl _ _⟩
  · rintro f ⟨s, b⟩ ⟨h1, h2, h3⟩
    have e1 : rd b 14 5 = nI L.length := by rw [h3 _ _ (by omega)]; exact h.1
    refine ⟨wr (wr (wr b (300 + 2 * c) 11 (nI L.length)) (300 + 2 * c) 6 (nI 1)) (300 + 2 * c) 8 (nI T), ?_, ?_, ?_, ?_, fun i hi => ?_, ?_⟩
    · show f_X0_start_L5 _ _ _ _ _ _ _ = _
      rw [f_X0_start_L5]
      simp (disch := omega) only [md_n, lt_eq, bd_some, gN, gN2, le_T, le_F, lt_T, lt_F, eq_T, eq_F, cN, plus_n, mul_n, rem_n, div_n, sub_n, re_T, re_F, rl_wr, rd_wl, ne_m1, m1_ne, m1_lt, m1_le, m1_ge, m1_gt, m1_refl, ↓reduceIte, L0, L1, L2, L3, L4, L5, L6, L7, L8, L9, L10, L11, L15, L16, L17, L18, L20, L24, L26, L28, L31, L32, L35, L36, L48, L57, L59, L63, L64, L96, L97, L99, L100, L112, L122, L128, L200, L255, L256, L1000, L1024, L2000, L3000, L1000000, L1000000007, e1]
    · simp (disch := omega) only [md_n, lt_eq, bd_some, gN, gN2, le_T, le_F, lt_T, lt_F, eq_T, eq_F, cN, plus_n, mul_n, rem_n, div_n, sub_n, re_T, re_F, rl_wr, rd_wl, ne_m1, m1_ne, m1_lt, m1_le, m1_ge, m1_gt, m1_refl, ↓reduceIte, L0, L1, L2, L3, L4, L5, L6, L7, L8, L9, L10, L11, L15, L16, L17, L18, L20, L24, L26, L28, L31, L32, L35, L36, L48, L57, L59, L63, L64, L96, L97, L99, L100, L112, L122, L128, L200, L255, L256, L1000, L1024, L2000, L3000, L1000000, L1000000007]
    · simp (disch := omega) only [md_n, lt_eq, bd_some, gN, gN2, le_T, le_F, lt_T, lt_F, eq_T, eq_F, cN, plus_n, mul_n, rem_n, div_n, sub_n, re_T, re_F, rl_wr, rd_wl, ne_m1, m1_ne, m1_lt, m1_le, m1_ge, m1_gt, m1_refl, ↓reduceIte, L0, L1, L2, L3, L4, L5, L6, L7, L8, L9, L10, L11, L15, L16, L17, L18, L20, L24, L26, L28, L31, L32, L35, L36, L48, L57, L59, L63, L64, L96, L97, L99, L100, L112, L122, L128, L200, L255, L256, L1000, L1024, L2000, L3000, L1000000, L1000000007]
    · simp (disch := omega) only [md_n, lt_eq, bd_some, gN, gN2, le_T, le_F, lt_T, lt_F, eq_T, eq_F, cN, plus_n, mul_n, rem_n, div_n, sub_n, re_T, re_F, rl_wr, rd_wl, ne_m1, m1_ne, m1_lt, m1_le, m1_ge, m1_gt, m1_refl, ↓reduceIte, L0, L1, L2, L3, L4, L5, L6, L7, L8, L9, L10, L11, L15, L16, L17, L18, L20, L24, L26, L28, L31, L32, L35, L36, L48, L57, L59, L63, L64, L96, L97, L99, L100, L112, L122, L128, L200, L255, L256, L1000, L1024, L2000, L3000, L1000000, L1000000007]
    · simp (disch := omega) only [md_n, lt_eq, bd_some, gN, gN2, le_T, le_F, lt_T, lt_F, eq_T, eq_F, cN, plus_n, mul_n, rem_n, div_n, sub_n, re_T, re_F, rl_wr, rd_wl, ne_m1, m1_ne, m1_lt, m1_le, m1_ge, m1_gt, m1_refl, ↓reduceIte, L0, L1, L2, L3, L4, L5, L6, L7, L8, L9, L10, L11, L15, L16, L17, L18, L20, L24, L26, L28, L31, L32, L35, L36, L48, L57, L59, L63, L64, L96, L97, L99, L100, L112, L122, L128, L200, L255, L256, L1000, L1024, L2000, L3000, L1000000, L1000000007]
      exact h2 i hi
    · exact (((h3.mono (fun k j h => Or.inr h)).wr (by omega)).wr (by omega)).wr (by omega)
  · rintro f ⟨s, b⟩ i hi ⟨h1, h2, h3⟩
    replace h1 : s = psum S L i := h1
    replace h2 : ∀ j, j < i → rd b (300 + 2 * c + 1) j = nI ((ends S L 0).getD j 0) := h2
    replace h3 : fr (fun k _ => k = 300 + 2 * c + 1) a b := h3
    have e1 : rd b 14 5 = nI L.length := by rw [h3 _ _ (by omega)]; exact h.1
    have e2 : rd b 19 i = nI (L.getD i 0) := by rw [h3 _ _ (by omega)]; exact h.2 i hi
    have e3 := hw _ (mem_at hi)
    obtain ⟨w1, w2, -⟩ := hI.1 _ e3
    have e4 : rd b 16 (L.getD i 0) = nI (nv S 16 (L.getD i 0)) := by rw [h3 _ _ (by omega), hX]; exact w1
    have hp := psum_s S hi
    have hle := psum_le (S := S) hI hw (i + 1)
    refine Or.inr ⟨(psum S L (i + 1), wr b (300 + 2 * c + 1) i (nI (psum S L (i + 1)))), ?_, rfl, fun j hj => ?_, h3.wr rfl⟩
    · show f_X0_start_L5 _ _ _ _ _ _ _ = f_X0_start_L5 _ _ _ _ (nI (psum S L (i + 1))) _ (wr b (300 + 2 * c + 1) i (nI (psum S L (i + 1))))
      rw [f_X0_start_L5, h1, hp]
      simp (disch := omega) only [md_n, lt_eq, bd_some, gN, gN2, le_T, le_F, lt_T, lt_F, eq_T, eq_F, cN, plus_n, mul_n, rem_n, div_n, sub_n, re_T, re_F, rl_wr, rd_wl, ne_m1, m1_ne, m1_lt, m1_le, m1_ge, m1_gt, m1_refl, ↓reduceIte, L0, L1, L2, L3, L4, L5, L6, L7, L8, L9, L10, L11, L15, L16, L17, L18, L20, L24, L26, L28, L31, L32, L35, L36, L48, L57, L59, L63, L64, L96, L97, L99, L100, L112, L122, L128, L200, L255, L256, L1000, L1024, L2000, L3000, L1000000, L1000000007, e1, e2, e4]
    · show rd (wr b (300 + 2 * c + 1) i (nI (psum S L (i + 1)))) (300 + 2 * c + 1) j = _
      by_cases d : j = i
      · subst d; rw [rw_eq, ends_get S L 0 j hi, Nat.zero_add]
      · rw [rw_ne (by omega)]; exact h2 j (by omega)
theorem beginC_ok {S a : St} {n T : Nat} {A : Ast} {c : Nat} (hS : Still S n T) (hf : fr XcC S a) (hw : wf S n A) (hR : repC S n T A a) (hc : c < n) (h0 : A.st c = 0) :
    ∃ a', f_X7_beginIfStill (nI c) a = some ((), a') ∧ repC S n T (if free S n A c = true then beg S T c A else A) a' ∧ fr XcC S a' := by
  have h24 := hS.1
  obtain ⟨⟨p1, p2, -⟩, ⟨l1, l2, -, l3⟩, ⟨n1, n2, -⟩, -⟩ := hS.2.2.1 c hc
  have hX : I_lex S := hS.2.2.2.2.2.1
  have hV : I_vox S := hS.2.2.2.2.1
  obtain ⟨f1, f2, f3, f4⟩ := spk_facts hX l1 n1
  have e0 : nC a = n := hR.2.2.1
  have ep : rd a (300 + 2 * c) 0 = nI (pa S c) := by rw [hf _ _ (by unfold XcC Xsc Xw; omega)]; exact p2
  have el : rd a (300 + 2 * c) 1 = nI (li S c) := by rw [hf _ _ (by unfold XcC Xsc Xw; omega)]; exact l2
  have en : rd a (300 + 2 * c) 2 = nI (nu S c) := by rw [hf _ _ (by unfold XcC Xsc Xw; omega)]; exact n2
  unfold f_X7_beginIfStill
  rw [gd_t (show inb (nI c) 24 ∧ (nI c).toNatClampNeg < nC a from ⟨inb_n (by omega) (by decide), by rw [cl_n (by omega), e0]; exact hc⟩), lt_eq, cl_n (by omega)]
  refine loopC (fun f (_ : Unit) i => f_X7_beginIfStill_L9 _ _ (nI c) c f (nI i) a) (fun y => ∃ a', y = some ((), a') ∧ repC S n T (if free S n A c = true then beg S T c A else A) a' ∧ fr XcC S a') (fun i _ => ∀ o, o < n → pa S o < i → heardBy S A c o = false) 6 ?_ ?_ 6 0 FU () (by omega) (by unfold FU; omega) (fun o _ h => by omega)
  · intro f _ h
    have hfree : free S n A c = true := free_of (fun o ho => h o ho (hS.2.2.1 o ho).1.1)
    rw [if_pos hfree]
    obtain ⟨hs, hx, h34, h547⟩ := XcC_all hf
    have hI := hS.2.2.2.2.2.2.1
    have hcu := hS.2.2.2.2.2.2.2
    have hv4 := (hV.c p1).1
    obtain ⟨S1, a1, a2, a3, a4⟩ := speakC (S := a) (l := li S c) (v := nu S c) (y := vo S (pa S c)) (hs.I hI) (cut_of h34 h547 hcu) (hX.cg hx) l1 n1 hv4
    rw [spk_cg hx, wtold_cg hx, fw_cg hs hI.1 (ct_of h34) hx] at a4
    rw [spk_cg hx, wtold_cg hx] at a1
    rw [spk_cg hx] at a3
    show ∃ a', f_X7_beginIfStill_L9 _ _ _ _ _ _ _ = _ ∧ _
    rw [f_X7_beginIfStill_L9, if_pos (show (6 : Int32) ≤ nI 6 from Int32.le_refl _), el, en, a1, bd_some, lt_eq]
    have hR1 : repC S n T A S1 := hR.keep h24 (a2.mono (fun c j h => Or.inl h))
    have hf1 : fr XcC S S1 := hf.trans (a2.mono (fun c j h => by unfold XcC; exact Or.inr (Or.inr (Or.inr (Or.inl h)))))
    -- mute
    have hmute : ∀ b, repC S n T A b → fr XcC S b → mu S c = none → repC S n T (beg S T c A) (wr b (300 + 2 * c) 6 (5 : Int32)) ∧ fr XcC S (wr b (300 + 2 * c) 6 (5 : Int32)) := fun b hb hfb hm => by
      refine ⟨?_, hfb.wr (by unfold XcC; omega)⟩
      unfold beg
      rw [hm]
      refine hb.st1 h24 ((fr.refl _ _).wr (by omega)) (fun d hd => ?_) (fun d hd hz => ?_) (fun d hd => ?_)
      · by_cases k : d = c
        · subst k; rw [fup_eq, h0]; omega
        · rw [fup_ne _ _ k]
      · by_cases k : d = c
        · subst k; exact h0
        · rw [fup_ne _ _ k] at hz; exact hz
      · by_cases k : d = c
        · subst k; rw [rw_eq, fup_eq]; rfl
        · rw [rw_ne (by omega), fup_ne _ _ k]; exact (hb.2.2.2.1 d hd).1
    by_cases ht : wtold S (spk S (li S c) (nu S c)) = true
    · obtain ⟨S2, b1, b2⟩ := a4 ht
      have hR2 : repC S n T A S2 := hR1.keep h24 (b2.mono (fun c j h => Or.inr h))
      have hf2 : fr XcC S S2 := hf1.trans (b2.mono (fun c j h => by unfold XcC; exact Or.inr (Or.inr (Or.inr (Or.inr h)))))
      have e44 : rd S1 44 (pa S c) = nI (vo S (pa S c)) := by rw [hf1 _ _ (by unfold XcC Xsc Xw; omega)]; exact (hV.c p1).2.2.1
      have ep1 : rd S1 (300 + 2 * c) 0 = nI (pa S c) := by rw [hf1 _ _ (by unfold XcC Xsc Xw; omega)]; exact p2
      rw [ht, if_neg (by decide), ep1, gd_t (inb_n p1 (by decide)), cl_n (by omega), e44, b1, bd_some]
      by_cases hj : jarR (fw S (vo S (pa S c))) (spk S (li S c) (nu S c)) 0 = -1
      · have hmu : mu S c = none := by unfold mu; rw [if_pos ht, if_pos hj]
        obtain ⟨m1, m2⟩ := hmute S2 hR2 hf2 hmu
        exact ⟨_, by rw [if_pos hj]; rfl, m1, m2⟩
      · have hmu : mu S c = some (ends S (spk S (li S c) (nu S c)) 0) := by unfold mu; rw [if_pos ht, if_neg hj]
        have e8 : rd S2 43 8 = nI T := hR2.2.1
        have hL2 : hasL S2 19 14 5 (spk S (li S c) (nu S c)) := ⟨by rw [b2 _ _ (by unfold Xw; omega)]; exact a3.1, fun i hi => by rw [b2 _ _ (by unfold Xw; omega)]; exact a3.2 i hi⟩
        obtain ⟨S3, d1, d2, d3, d4, d5, d6⟩ := startC_ok (S := S) (a := S2) (n := n) (T := T) (c := c) hX (fun w => hf2 _ _ (by unfold XcC Xsc Xw; omega)) f1 f3 hL2 (by omega)
        obtain ⟨i1, i2, i3⟩ := ends_incr hX f3 ht (by omega) f1
        have ep3 : rd S3 (300 + 2 * c) 0 = nI (pa S c) := by rw [d6 _ _ (by omega), hf2 _ _ (by unfold XcC Xsc Xw; omega)]; exact p2
        rw [if_neg hj, e8, d1, bd_some, ep3, gd_t (inb_n p1 (by decide)), lt_eq, cl_n (by omega)]
        have hno : ∀ d, d < n → A.st d = 1 → pa S d ≠ pa S c := fun d hd hz hp => by
          have := free_no hfree hd
          unfold heardBy at this
          rw [hp, near_self hS.2.2.2.1 p1, decide_eq_true hz] at this
          cases this
        refine ⟨_, rfl, ?_, (hf2.trans (d6.mono (fun k j h => by unfold XcC; omega))).wr (by unfold XcC; omega)⟩
        generalize hS4 : wr S3 47 (pa S c) (nI c) = S4
        have d7 : fr (fun k j => (k = 300 + 2 * c ∧ (j = 11 ∨ j = 6 ∨ j = 8)) ∨ k = 300 + 2 * c + 1 ∨ (k = 47 ∧ j = pa S c)) S2 S4 := by rw [← hS4]; exact (d6.mono (fun k j h => by omega)).wr (by omega)
        have r4 : ∀ k j, k ≠ 47 → rd S4 k j = rd S3 k j := fun k j hk => by rw [← hS4, rw_ne (Or.inl hk)]
        obtain ⟨g1, g2, g3, g4, g5⟩ := hR2
        unfold beg
        rw [hmu]
        refine ⟨by rw [d7 _ _ (by omega)]; exact g1, by rw [d7 _ _ (by omega)]; exact g2, by rw [← g3]; unfold nC; rw [d7 _ _ (by omega)], fun d hd => ?_, fun q hq => ?_⟩
        · obtain ⟨k1, k2, k3, k4, k5, k6⟩ := g4 d hd
          by_cases k : d = c
          · subst k
            refine ⟨?_, ?_, ?_, ?_, fun z => ?_, fun _ => ?_⟩
            · show rd S4 (300 + 2 * d) 6 = nI (fup A.st d 1 d); rw [fup_eq, r4 _ _ (by omega)]; exact d3
            · rw [d7 _ _ (by omega)]; exact k2
            · show rd S4 (300 + 2 * d) 8 = fup A.bg d (nI T) d; rw [fup_eq, r4 _ _ (by omega)]; exact d4
            · rw [d7 _ _ (by omega)]; exact k4
            · have : fup A.st d 1 d = 0 := z; rw [fup_eq] at this; omega
            · show rd S4 (300 + 2 * d) 11 = nI (fup A.en d _ d).length ∧ (∀ i, i < (fup A.en d _ d).length → rd S4 (300 + 2 * d + 1) i = nI ((fup A.en d _ d).getD i 0)) ∧ ∃ w, w < (fup A.en d _ d).length ∧ rd S4 (300 + 2 * d) 12 = nI w ∧ (∀ i, i < w → (fup A.en d _ d).getD i 0 ≤ A.sd d) ∧ A.sd d < (fup A.en d _ d).getD w 0
              rw [fup_eq, ends_len]
              refine ⟨by rw [r4 _ _ (by omega)]; exact d2, fun i hi => by rw [r4 _ _ (by omega)]; exact d5 i hi, 0, by omega, by rw [d7 _ _ (by omega)]; exact k5 h0, fun i hi => by omega, ?_⟩
              rw [(hw.1 d hd).2.1 h0]; exact i2
          · have hdd : ∀ j, rd S4 (300 + 2 * d) j = rd S2 (300 + 2 * d) j := fun j => d7 _ _ (by omega)
            have hde : ∀ j, rd S4 (300 + 2 * d + 1) j = rd S2 (300 + 2 * d + 1) j := fun j => d7 _ _ (by omega)
            refine ⟨?_, by rw [hdd]; exact k2, ?_, by rw [hdd]; exact k4, fun z => ?_, fun z => ?_⟩
            · show _ = nI (fup A.st c 1 d); rw [fup_ne _ _ k, hdd]; exact k1
            · show _ = fup A.bg c (nI T) d; rw [fup_ne _ _ k, hdd]; exact k3
            · have z' : fup A.st c 1 d = 0 := z
              rw [fup_ne _ _ k] at z'; rw [hdd]; exact k5 z'
            · have z' : fup A.st c 1 d = 1 := z
              rw [fup_ne _ _ k] at z'
              show rd S4 (300 + 2 * d) 11 = nI (fup A.en c _ d).length ∧ (∀ i, i < (fup A.en c _ d).length → rd S4 (300 + 2 * d + 1) i = nI ((fup A.en c _ d).getD i 0)) ∧ ∃ w, w < (fup A.en c _ d).length ∧ rd S4 (300 + 2 * d) 12 = nI w ∧ (∀ i, i < w → (fup A.en c _ d).getD i 0 ≤ A.sd d) ∧ A.sd d < (fup A.en c _ d).getD w 0
              rw [fup_ne _ _ k, hdd, hdd]
              obtain ⟨m1, m2, m3⟩ := k6 z'
              exact ⟨m1, fun i hi => by rw [hde]; exact m2 i hi, m3⟩
        · by_cases k : q = pa S c
          · subst k
            exact Or.inl ⟨c, hc, fup_eq _ _ _, rfl, by rw [← hS4, rw_eq]⟩
          · rcases g5 q hq with ⟨d, c1, c2, c3, c4⟩ | ⟨c1, c2⟩
            · refine Or.inl ⟨d, c1, ?_, c3, by rw [d7 _ _ (by omega)]; exact c4⟩
              show fup A.st c 1 d = 1
              rw [fup_ne _ _ (fun z => k (by rw [← c3, z]))]; exact c2
            · refine Or.inr ⟨fun d hd hz hpq => ?_, by rw [d7 _ _ (by omega)]; exact c2⟩
              have hz' : fup A.st c 1 d = 1 := hz
              by_cases kd : d = c
              · exact k (by rw [← hpq, kd])
              · rw [fup_ne _ _ kd] at hz'; exact c1 d hd hz' hpq
    · have hmu : mu S c = none := by unfold mu; rw [if_neg ht]
      obtain ⟨m1, m2⟩ := hmute S1 hR1 hf1 hmu
      exact ⟨_, by rw [Bool.eq_false_iff.mpr ht, if_pos (by decide)]; rfl, m1, m2⟩
  · intro f _ q hq h
    have hre := reached_ok (S := S) (a := a) hS.2.2.2.1 (fun j => hf _ _ (by unfold XcC Xsc Xw; omega)) p1 hq
    cases hnr : nr S (pa S c) q
    · right
      rw [hnr] at hre
      have hre2 : f_X7_isReached (nI (pa S c)) (nI q) a = some (nI 0, a) := hre
      refine ⟨(), ?_, fun o ho ho2 => ?_⟩
      · show f_X7_beginIfStill_L9 _ _ _ _ _ _ _ = f_X7_beginIfStill_L9 _ _ _ _ _ _ _
        rw [f_X7_beginIfStill_L9, ep]
        simp (disch := omega) only [md_n, lt_eq, bd_some, gN, gN2, le_T, le_F, lt_T, lt_F, eq_T, eq_F, cN, plus_n, mul_n, rem_n, div_n, sub_n, re_T, re_F, rl_wr, rd_wl, ne_m1, m1_ne, m1_lt, m1_le, m1_ge, m1_gt, m1_refl, ↓reduceIte, L0, L1, L2, L3, L4, L5, L6, L7, L8, L9, L10, L11, L15, L16, L17, L18, L20, L24, L26, L28, L31, L32, L35, L36, L48, L57, L59, L63, L64, L96, L97, L99, L100, L112, L122, L128, L200, L255, L256, L1000, L1024, L2000, L3000, L1000000, L1000000007, hre2]
      · by_cases d : pa S o = q
        · unfold heardBy; rw [d, hnr, Bool.and_false]
        · exact h o ho (by omega)
    · rw [hnr] at hre
      have hre2 : f_X7_isReached (nI (pa S c)) (nI q) a = some (nI 1, a) := hre
      rcases hR.2.2.2.2 q hq with ⟨o, o1, o2, o3, o4⟩ | ⟨o1, o2⟩
      · left
        have hh : heardBy S A c o = true := by unfold heardBy; rw [o3, hnr, decide_eq_true o2]; rfl
        rw [free_f o1 hh, if_neg (by decide)]
        refine ⟨a, ?_, hR, hf⟩
        show f_X7_beginIfStill_L9 _ _ _ _ _ _ _ = _
        rw [f_X7_beginIfStill_L9, ep]
        simp (disch := omega) only [md_n, lt_eq, bd_some, gN, gN2, le_T, le_F, lt_T, lt_F, eq_T, eq_F, cN, plus_n, mul_n, rem_n, div_n, sub_n, re_T, re_F, rl_wr, rd_wl, ne_m1, m1_ne, m1_lt, m1_le, m1_ge, m1_gt, m1_refl, ↓reduceIte, L0, L1, L2, L3, L4, L5, L6, L7, L8, L9, L10, L11, L15, L16, L17, L18, L20, L24, L26, L28, L31, L32, L35, L36, L48, L57, L59, L63, L64, L96, L97, L99, L100, L112, L122, L128, L200, L255, L256, L1000, L1024, L2000, L3000, L1000000, L1000000007, hre2, o4]
      · right
        have e4 : rd a 47 q = -nI 1 := o2
        refine ⟨(), ?_, fun o ho ho2 => ?_⟩
        · show f_X7_beginIfStill_L9 _ _ _ _ _ _ _ = f_X7_beginIfStill_L9 _ _ _ _ _ _ _
          rw [f_X7_beginIfStill_L9, ep]
          simp (disch := omega) only [md_n, lt_eq, bd_some, gN, gN2, le_T, le_F, lt_T, lt_F, eq_T, eq_F, cN, plus_n, mul_n, rem_n, div_n, sub_n, re_T, re_F, rl_wr, rd_wl, ne_m1, m1_ne, m1_lt, m1_le, m1_ge, m1_gt, m1_refl, ↓reduceIte, L0, L1, L2, L3, L4, L5, L6, L7, L8, L9, L10, L11, L15, L16, L17, L18, L20, L24, L26, L28, L31, L32, L35, L36, L48, L57, L59, L63, L64, L96, L97, L99, L100, L112, L122, L128, L200, L255, L256, L1000, L1024, L2000, L3000, L1000000, L1000000007, hre2, e4]
        · by_cases d : pa S o = q
          · have : A.st o ≠ 1 := fun z => o1 o ho z d
            unfold heardBy; rw [decide_eq_false this, Bool.false_and]
          · exact h o ho (by omega)
