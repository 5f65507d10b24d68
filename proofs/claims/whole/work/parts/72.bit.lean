/-! ===== bit: the model, and the call ===== -/
theorem bit79_ok {S b : St} {v n q k due C : Nat} {r : Nat → Nat} {to : Option Nat} {v4 v5 v6 : Int32} (K : Int32 → St → Option (Int32 × St)) (hI : I_pcs S) (hf : fr Xm S b) (hn : n ≤ 16) (hk : q + (k + 1) = n) (hd : due ≤ 10000) (hto : ∀ t, to = some t → t < 100) (hL : laid S v n r q b) (hC : fstC S v n r k to due C) :
    f_X11_bit_L79 K v4 v5 v6 (nI q) (nI due) (tI to) FU (nI 0) b = K (nI C) b := by
  have h16 := hI.1
  have hC1 := hC.1
  have hP := Xm_pc hf
  have hkq : n - 1 - q = k := by omega
  have hL' : ∀ c, c < 64 * nP S → rp (rd b 61 (1024 * q + c)) (rd b 62 (1024 * q + c)) (LB S v n r k c) (300 * k + 200) := fun c hc => by have := hL c hc; rw [hkq] at this; exact this
  -- one bit looked at
  have one : ∀ c, c < 64 * nP S → ∀ f, (goodC S v n r k to due c ∧ f_X11_bit_L79 K v4 v5 v6 (nI q) (nI due) (tI to) (f + 1) (nI c) b = K (nI c) b) ∨ (¬ goodC S v n r k to due c ∧ f_X11_bit_L79 K v4 v5 v6 (nI q) (nI due) (tI to) (f + 1) (nI c) b = f_X11_bit_L79 K v4 v5 v6 (nI q) (nI due) (tI to) f (nI (c + 1)) b) := by
    intro c hc f
    rcases hL' c hc with ⟨p1, p2, p3⟩ | ⟨w, p1, p2, p3, p4⟩
    · right
      refine ⟨fun hg => (LB_good.mp hg).1 (sh_zero _ p1 _), ?_⟩
      rw [f_X11_bit_L79]
      simp (disch := omega) only [md_n, lt_eq, bd_some, gN, gN2, le_T, le_F, lt_T, lt_F, eq_T, eq_F, cN, plus_n, mul_n, rem_n, div_n, sub_n, re_T, re_F, rl_wr, rd_wl, ne_m1, m1_ne, m1_lt, m1_le, m1_ge, m1_gt, m1_refl, ↓reduceIte, L0, L1, L2, L3, L4, L5, L6, L7, L8, L9, L10, L11, L15, L16, L17, L18, L20, L24, L26, L28, L31, L32, L35, L36, L48, L57, L59, L63, L64, L96, L97, L99, L100, L112, L122, L128, L200, L255, L256, L1000, L1024, L2000, L3000, L1000000, L1000000007, p2]
    · have hnz := LB_nz p2.1
      have hi2 : c / 8 % 8 < pl S (c / 64) := by omega
      have hp2 : c / 64 < nP S := by omega
      obtain ⟨-, -, -, -, -, g5, -⟩ := pm_p hI hP hp2
      have e6 := g5 _ hi2
      have ht2 := tn_lt hI _ _ hp2 hi2
      have hgd : goodC S v n r k to due c ↔ w + dT S to (c / 64) (c / 8 % 8) = due := by
        rw [LB_good]
        have := p2.mv (dT S to (c / 64) (c / 8 % 8))
        constructor
        · intro h; exact this.uniq h
        · intro h; rw [h] at this; exact this
      cases to with
      | none =>
        have h0 : dT S none (c / 64) (c / 8 % 8) = 0 := rfl
        rw [h0, Nat.add_zero] at hgd
        by_cases d : w = due
        · left
          refine ⟨hgd.mpr d, ?_⟩
          show f_X11_bit_L79 _ _ _ _ _ _ (-nI 1) _ _ _ = _
          rw [f_X11_bit_L79]
          simp (disch := omega) only [md_n, lt_eq, bd_some, gN, gN2, le_T, le_F, lt_T, lt_F, eq_T, eq_F, cN, plus_n, mul_n, rem_n, div_n, sub_n, re_T, re_F, rl_wr, rd_wl, ne_m1, m1_ne, m1_lt, m1_le, m1_ge, m1_gt, m1_refl, ↓reduceIte, L0, L1, L2, L3, L4, L5, L6, L7, L8, L9, L10, L11, L15, L16, L17, L18, L20, L24, L26, L28, L31, L32, L35, L36, L48, L57, L59, L63, L64, L96, L97, L99, L100, L112, L122, L128, L200, L255, L256, L1000, L1024, L2000, L3000, L1000000, L1000000007, p3]
        · right
          refine ⟨fun h => d (hgd.mp h), ?_⟩
          show f_X11_bit_L79 _ _ _ _ _ _ (-nI 1) _ _ _ = f_X11_bit_L79 _ _ _ _ _ _ (-nI 1) _ _ _
          rw [f_X11_bit_L79]
          simp (disch := omega) only [md_n, lt_eq, bd_some, gN, gN2, le_T, le_F, lt_T, lt_F, eq_T, eq_F, cN, plus_n, mul_n, rem_n, div_n, sub_n, re_T, re_F, rl_wr, rd_wl, ne_m1, m1_ne, m1_lt, m1_le, m1_ge, m1_gt, m1_refl, ↓reduceIte, L0, L1, L2, L3, L4, L5, L6, L7, L8, L9, L10, L11, L15, L16, L17, L18, L20, L24, L26, L28, L31, L32, L35, L36, L48, L57, L59, L63, L64, L96, L97, L99, L100, L112, L122, L128, L200, L255, L256, L1000, L1024, L2000, L3000, L1000000, L1000000007, p3]
      | some t =>
        have ht := hto t rfl
        have hdl := dst_lt ht ht2
        have e7 := apart_n (a := t) (b := tn S (c / 64) (c / 8 % 8)) (by omega) (by omega) b
        have h0 : dT S (some t) (c / 64) (c / 8 % 8) = dst t (tn S (c / 64) (c / 8 % 8)) := rfl
        rw [h0] at hgd
        by_cases d : w + dst t (tn S (c / 64) (c / 8 % 8)) = due
        · left
          refine ⟨hgd.mpr d, ?_⟩
          show f_X11_bit_L79 _ _ _ _ _ _ (nI t) _ _ _ = _
          rw [f_X11_bit_L79]
          simp (disch := omega) only [md_n, lt_eq, bd_some, gN, gN2, le_T, le_F, lt_T, lt_F, eq_T, eq_F, cN, plus_n, mul_n, rem_n, div_n, sub_n, re_T, re_F, rl_wr, rd_wl, ne_m1, m1_ne, m1_lt, m1_le, m1_ge, m1_gt, m1_refl, ↓reduceIte, L0, L1, L2, L3, L4, L5, L6, L7, L8, L9, L10, L11, L15, L16, L17, L18, L20, L24, L26, L28, L31, L32, L35, L36, L48, L57, L59, L63, L64, L96, L97, L99, L100, L112, L122, L128, L200, L255, L256, L1000, L1024, L2000, L3000, L1000000, L1000000007, p3, e6, e7]
        · right
          refine ⟨fun h => d (hgd.mp h), ?_⟩
          show f_X11_bit_L79 _ _ _ _ _ _ (nI t) _ _ _ = f_X11_bit_L79 _ _ _ _ _ _ (nI t) _ _ _
          rw [f_X11_bit_L79]
          simp (disch := omega) only [md_n, lt_eq, bd_some, gN, gN2, le_T, le_F, lt_T, lt_F, eq_T, eq_F, cN, plus_n, mul_n, rem_n, div_n, sub_n, re_T, re_F, rl_wr, rd_wl, ne_m1, m1_ne, m1_lt, m1_le, m1_ge, m1_gt, m1_refl, ↓reduceIte, L0, L1, L2, L3, L4, L5, L6, L7, L8, L9, L10, L11, L15, L16, L17, L18, L20, L24, L26, L28, L31, L32, L35, L36, L48, L57, L59, L63, L64, L96, L97, L99, L100, L112, L122, L128, L200, L255, L256, L1000, L1024, L2000, L3000, L1000000, L1000000007, p3, e6, e7]
  refine loopC (fun f (_ : Unit) c => f_X11_bit_L79 K v4 v5 v6 (nI q) (nI due) (tI to) f (nI c) b) (fun y => y = K (nI C) b) (fun _ _ => True) C ?_ ?_ C 0 FU () (by omega) (by unfold FU; omega) trivial
  · intro f _ _
    rcases one C hC1 f with ⟨-, h⟩ | ⟨h, -⟩
    · exact h
    · exact absurd hC.2.1 h
  · intro f _ c hc _
    right
    rcases one c (by omega) f with ⟨h, -⟩ | ⟨-, h⟩
    · exact absurd h (hC.2.2 c hc)
    · exact ⟨(), h, trivial⟩
theorem bit69_ok {S : St} {v n : Nat} {r : Nat → Nat} {v5 : Int32} (K : Int32 → St → Option (Int32 × St)) (hI : I_pcs S) (hc : I_cut S) (hn : n ≤ 16) : ∀ (rem q : Nat) (to : Option Nat) (due s : Nat) (b : St) (f : Nat), q + rem = n → rem < f → s + rem ≤ 16 → due ≤ 10000 → (∀ t, to = some t → t < 100) → (0 < rem → isL (tgt S v n r rem to) due) → fr Xm S b → (∀ u, u < n → laid S v n r u b) →
    ∃ L b', f_X11_bit_L69 K (nI n) v5 f (nI s) (nI q) (nI due) (tI to) b = K (nI (s + L.length)) b' ∧ PathR S v n r L rem to due ∧ s + L.length ≤ 16 ∧ (∀ i, i < L.length → rd b' 64 (s + i) = nI (cde (L.getD i 0))) ∧ (∀ i, i < s → rd b' 64 i = rd b 64 i) ∧ fr Xm S b' := by
  intro rem
  induction rem using Nat.strongRecOn with
  | _ rem ih =>
    intro q to due s b f hq hf hs hd hto hT hb hL
    obtain ⟨f, rfl⟩ : ∃ g, f = g + 1 := ⟨f - 1, by omega⟩
    have h16 := hI.1
    by_cases c0 : rem = 0
    · subst c0
      refine ⟨[], b, ?_, rfl, by simp; omega, fun i hi => by simp at hi, fun i hi => rfl, hb⟩
      rw [f_X11_bit_L69]
      simp (disch := omega) only [md_n, lt_eq, bd_some, gN, gN2, le_T, le_F, lt_T, lt_F, eq_T, eq_F, cN, plus_n, mul_n, rem_n, div_n, sub_n, re_T, re_F, rl_wr, rd_wl, ne_m1, m1_ne, m1_lt, m1_le, m1_ge, m1_gt, m1_refl, ↓reduceIte, L0, L1, L2, L3, L4, L5, L6, L7, L8, L9, L10, L11, L15, L16, L17, L18, L20, L24, L26, L28, L31, L32, L35, L36, L48, L57, L59, L63, L64, L96, L97, L99, L100, L112, L122, L128, L200, L255, L256, L1000, L1024, L2000, L3000, L1000000, L1000000007]
      rfl
    · obtain ⟨k, rfl⟩ : ∃ k, rem = k + 1 := ⟨rem - 1, by omega⟩
      obtain ⟨C, hC⟩ := good_ex hI (by omega) (hT (by omega))
      obtain ⟨u1, u2, u3, u4, d, u5⟩ := tn_us hC
      have hC1 := hC.1
      have hP := Xm_pc hb
      have hct : rd b 54 7 = nI (ct S) := by rw [hb 54 7 (by unfold Xm; omega)]; exact hc.2.1
      have hcuts := cutsOf_ok hI hP hct u2 u3
      have hcE := cE_lt hc (C / 64) (C / 8 % 8 + C % 8)
      have hcB := cB_lt hc (C / 8 % 8)
      obtain ⟨-, -, -, -, -, g5, g6, g7, -⟩ := pm_p hI hP u2
      have e6 : f_X11_toneOf (nI (C / 64)) (nI (C / 8 % 8 + (C % 8 + 1) - 1)) b = some (nI (tn S (C / 64) (C / 8 % 8 + C % 8)), b) := g5 _ u3
      have ht2 := tn_lt hI _ _ u2 u3
      have hlb := hL q (by omega) C hC1
      rw [show n - 1 - q = k by omega] at hlb
      have hw : d + (cB S (C / 8 % 8) + cE S (C / 64) (C / 8 % 8 + C % 8)) ≤ 300 * k + 200 ∧ rd b 61 (1024 * q + C) = nI (d + (cB S (C / 8 % 8) + cE S (C / 64) (C / 8 % 8 + C % 8))) := by
        have hv := hC.2.1
        have hLB : LB S v n r k C = _ := if_pos ⟨hv.1, hv.2.1, hv.2.2.1, hv.2.2.2.1⟩
        have := u5.mv (cB S (C / 8 % 8) + cE S (C / 64) (C / 8 % 8 + C % 8))
        rw [← hLB] at this
        rcases hlb with ⟨p1, -⟩ | ⟨w, p1, p2, p3, -⟩
        · exact absurd (p1 _) this.1
        · rw [this.uniq p2]; exact ⟨p1, p3⟩
      obtain ⟨hw1, hw2⟩ := hw
      generalize hcc : cB S (C / 8 % 8) + cE S (C / 64) (C / 8 % 8 + C % 8) = cu at *
      have i8 : C / 8 % 8 < 8 := by omega
      have m8 : C % 8 < 8 := by omega
      have hcde : 256 * (C / 64) + 16 * (C / 8 % 8) + (C % 8 + 1) = cde C := rfl
      generalize hb2 : wr b 64 s (nI (cde C)) = b2
      have g : fr (fun c j => c = 64 ∧ j = s) b b2 := by rw [← hb2]; exact (fr.refl _ _).wr (by omega)
      obtain ⟨L, b', i1, i2, i4, i5, i6, i7⟩ := ih (k - C % 8) (by omega) (q + (C % 8 + 1)) (some (tn S (C / 64) (C / 8 % 8 + C % 8))) d (s + 1) b2 f (by omega) (by omega) (by omega) (by omega) (fun t ht => by cases ht; exact ht2) (fun _ => u5) (hb.trans (g.mono (fun c j h => by unfold Xm; omega))) (fun u hu c hc => by rw [g _ _ (by omega), g _ _ (by omega)]; exact hL u hu c hc)
      refine ⟨C :: L, b', ?_, ⟨k, rfl, hC, d, u5, i2⟩, by rw [List.length_cons]; omega, fun i hi => ?_, fun i hi => ?_, i7⟩
      · rw [f_X11_bit_L69, if_neg (by rw [le_n (by omega) (by omega)]; omega)]
        refine (bit79_ok _ hI hb hn hq hd hto (hL q (by omega)) hC).trans ?_
        simp (disch := omega) only [md_n, lt_eq, bd_some, gN, gN2, le_T, le_F, lt_T, lt_F, eq_T, eq_F, cN, plus_n, mul_n, rem_n, div_n, sub_n, re_T, re_F, rl_wr, rd_wl, ne_m1, m1_ne, m1_lt, m1_le, m1_ge, m1_gt, m1_refl, ↓reduceIte, L0, L1, L2, L3, L4, L5, L6, L7, L8, L9, L10, L11, L15, L16, L17, L18, L20, L24, L26, L28, L31, L32, L35, L36, L48, L57, L59, L63, L64, L96, L97, L99, L100, L112, L122, L128, L200, L255, L256, L1000, L1024, L2000, L3000, L1000000, L1000000007, hcuts, hw2, e6, hcde, hb2, Nat.add_sub_cancel]
        rw [List.length_cons, show s + (L.length + 1) = s + 1 + L.length by omega]
        exact i1
      · cases i with
        | zero =>
          show rd b' 64 (s + 0) = nI (cde C)
          rw [Nat.add_zero, i6 s (by omega), ← hb2, rw_eq]
        | succ i =>
          have := i5 i (by simp at hi; omega)
          rw [show s + (i + 1) = s + 1 + i by omega]
          exact this
      · rw [i6 i (by omega), g _ _ (by omega)]
