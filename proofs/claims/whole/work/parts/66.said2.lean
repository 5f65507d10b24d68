theorem Xw_same {S b : St} (h : fr Xw S b) : sameP S b := fun c j hc => h c j (by unfold pcA pcD at hc; unfold Xw; omega)
theorem Xw_ct {S b : St} (h : fr Xw S b) : ct b = ct S := by unfold ct nv; rw [h 3 4 (by unfold Xw; omega)]
theorem Xw_cut {S b : St} (h : fr Xw S b) (hc : I_cut S) : I_cut b := by
  unfold I_cut
  rw [Xw_ct h, h 3 4 (by unfold Xw; omega), h 54 7 (by unfold Xw; omega)]
  exact hc
def Xsd (c j : Nat) : Prop := Xw c j ∨ Xm c j
/-- the two ways, of one row: class then model -/
theorem both_ok {S : St} {v k : Nat} {x : Int64} (hI : I_pcs S) (hc : I_cut S) (hv : v < 4) (hk : k ≤ 15) :
    ∃ S1 S2 J, f_X6_weigh (nI v) x (nI (k + 1)) S = some ((), S1) ∧ fr Xw S S1 ∧ rp (rd S1 3 14) (rd S1 3 15) (Tot S v (k + 1) (nib x) (k + 1)) (300 * (k + 1)) ∧
      (∃ S', f_X11_layRow x (nI (k + 1)) S1 = some ((), S') ∧ f_X11_layOut (nI v) (nI (k + 1)) S' = some ((), S2)) ∧ f_X11_leastOf S2 = some (J, S2) ∧ fr Xm S1 S2 ∧ rj J (Tot S v (k + 1) (nib x) (k + 1)) (300 * k + 200) ∧ rd S2 54 0 = nI (nP S1) ∧
      laid S1 v (k + 1) (nib x) 0 S2 := by
  obtain ⟨S1, a1, a2, a3, a4⟩ := weigh_ok (S := S) (v := v) (n := k + 1) (x := x) (r := nib x) hI hc hv (by omega) (by omega) (nib_lt x) (fun _ _ => rfl)
  have hs := Xw_same a2.1
  have hI1 := hs.I hI
  obtain ⟨b, b1, b2, b3⟩ := layRow_ok (S := S1) x (n := k + 1) (by omega)
  have hfb : fr Xm S1 b := b2.mono (fun c j h => by unfold Xm; omega)
  obtain ⟨S2, c1, c2, c3⟩ := layOut_ok (S := S1) (b := b) (v := v) (n := k + 1) (r := nib x) hI1 (Xw_cut a2.1 hc) hv hfb (by omega) (by omega) b3 (nib_lt x)
  have h54 : rd S2 54 0 = nI (nP S1) := by rw [c2 _ _ (by omega), b2 _ _ (by omega)]; exact hI1.2.2.1
  obtain ⟨J, d1, d2⟩ := leastOf_ok hI1 hk h54 (c3 0 (by omega))
  rw [Tot_cg hs hI.1 (Xw_ct a2.1)] at d2
  exact ⟨S1, S2, J, a1, a2.1, a3, ⟨b, b1, c1⟩, d1, hfb.trans (c2.mono (fun c j h => by unfold Xm; omega)), d2, h54, c3 0 (by omega)⟩
theorem said_all (v1 : Int32) (x : Int64) (v4 v5 : Int32) {S : St} (hI : I_pcs S) (hc : I_cut S) : ∃ r S1 S2, f_X10_said v1 x v4 v5 S = some (r, S1) ∧ f_X11_said v1 x v4 v5 S1 = some (r, S2) ∧ fr Xsd S S2 := by
  unfold f_X10_said f_X11_said
  rcases bl v1 4 (by decide) (by decide) with h | ⟨v, hv, rfl, h⟩
  · obtain ⟨h1, h2⟩ := h S
    exact ⟨-3, S, S, by rw [show f_X10_below v1 4 S = _ from h1]; rfl, by rw [show f_X11_in v1 0 3 S = _ from h2]; rfl, fr.refl _ _⟩
  rw [show f_X10_below (nI v) 4 S = _ from (h S).1, bd_some, if_neg (by decide), within_in]
  rcases bl1 v4 16 (by decide) with g | ⟨n, hn1, hn, rfl, g⟩
  · exact ⟨-3, S, S, by rw [show f_X11_in v4 1 16 S = _ from g S]; rfl, by rw [show f_X11_in (nI v) 0 3 S = _ from (h S).2, bd_some, if_neg (by decide), show f_X11_in v4 1 16 S = _ from g S]; rfl, fr.refl _ _⟩
  rw [show f_X11_in (nI n) 1 16 S = _ from g S, bd_some, if_neg (by decide)]
  rcases bl v5 2 (by decide) (by decide) with w | ⟨y, hy, rfl, w⟩
  · exact ⟨-3, S, S, by rw [show f_X10_below v5 2 S = _ from (w S).1]; rfl, by rw [show f_X11_in (nI v) 0 3 S = _ from (h S).2, bd_some, if_neg (by decide), show f_X11_in (nI n) 1 16 S = _ from g S, bd_some, if_neg (by decide), show f_X11_in v5 0 1 S = _ from (w S).2]; rfl, fr.refl _ _⟩
  rw [show f_X10_below (nI y) 2 S = _ from (w S).1, bd_some, if_neg (by decide)]
  obtain ⟨k, rfl⟩ : ∃ k, n = k + 1 := ⟨n - 1, by omega⟩
  obtain ⟨S1, S2, J, a1, a2, a3, ⟨S', a4, a5⟩, a6, a7, a8, a9, a10⟩ := both_ok (x := x) hI hc hv (show k ≤ 15 by omega)
  have hs := Xw_same a2
  have hI1 := hs.I hI
  have hF : fr Xsd S S2 := (a2.mono (fun c j h => Or.inl h)).trans (a7.mono (fun c j h => Or.inr h))
  have hT := Tot_cg hs hI.1 (Xw_ct a2) v (k + 1) (nib x) (k + 1)
  have hm : ∀ r, (if nI y = 0 then if J = (1000000 : Int32) then some ((-1 : Int32), S2) else some (J, S2) else f_X11_said_L78 (fun (x33 : Int64) (S34 : St) => some ((Int64.toInt32 (x33 - x33 / (1000000007 : Int64) * (1000000007 : Int64))), S34)) J FU (0 : Int64) (0 : Int32) S2) = some (r, S2) → (bd_ (f_X11_in (nI v) (0 : Int32) (3 : Int32) S1) fun r5 S6 =>
  if r5 = 0 then
    some ((-3 : Int32), S6)
  else
    bd_ (f_X11_in (nI (k + 1)) (1 : Int32) (16 : Int32) S6) fun r8 S9 =>
    if r8 = 0 then
      some ((-3 : Int32), S9)
    else
      bd_ (f_X11_in (nI y) (0 : Int32) (1 : Int32) S9) fun r11 S12 =>
      if r11 = 0 then
        some ((-3 : Int32), S12)
      else
        bd_ (f_X11_layRow x (nI (k + 1)) S12) fun r14 S15 =>
        bd_ (f_X11_layOut (nI v) (nI (k + 1)) S15) fun r16 S17 =>
        bd_ (f_X11_leastOf  S17) fun r18 S19 =>
        if nI y = 0 then
          if r18 = (1000000 : Int32) then
            some ((-1 : Int32), S19)
          else
            some (r18, S19)
        else
          f_X11_said_L78
            (fun (x33 : Int64) (S34 : St) =>
              some ((Int64.toInt32 (x33 - x33 / (1000000007 : Int64) * (1000000007 : Int64))), S34))
            r18 FU (0 : Int64) (0 : Int32) S19) = some (r, S2) := fun r hr => by
    rw [show f_X11_in (nI v) 0 3 S1 = _ from (h S1).2, bd_some, if_neg (by decide), show f_X11_in (nI (k + 1)) 1 16 S1 = _ from g S1, bd_some, if_neg (by decide), show f_X11_in (nI y) 0 1 S1 = _ from (w S1).2, bd_some, if_neg (by decide), a4, bd_some, a5, bd_some, a6, bd_some]
    exact hr
  generalize hTT : Tot S v (k + 1) (nib x) (k + 1) = T at *
  rcases a3 with ⟨p1, p2, p3⟩ | ⟨j, p1, p2, p3, p4⟩
  · have hJ : J = nI 1000000 := by
      rcases a8 with ⟨-, e⟩ | ⟨i, -, i2, -⟩
      · exact e
      · exact absurd (p1 i) i2.1
    subst hJ
    by_cases c : y = 0
    · subst c
      refine ⟨-1, S1, S2, ?_, hm _ ?_, hF⟩
      · rw [a1, bd_some]; unfold f_X6_leastJar; simp (disch := omega) only [md_n, lt_eq, bd_some, gN, gN2, le_T, le_F, lt_T, lt_F, eq_T, eq_F, cN, plus_n, mul_n, rem_n, div_n, sub_n, re_T, re_F, rl_wr, rd_wl, ne_m1, m1_ne, m1_lt, m1_le, m1_ge, m1_gt, m1_refl, ↓reduceIte, L0, L1, L2, L3, L4, L5, L6, L7, L8, L9, L10, L11, L15, L16, L17, L18, L20, L24, L26, L28, L31, L32, L35, L36, L48, L57, L59, L63, L64, L96, L97, L99, L100, L112, L122, L128, L200, L255, L256, L1000, L1024, L2000, L3000, L1000000, L1000000007, p2]
      · simp (disch := omega) only [md_n, lt_eq, bd_some, gN, gN2, le_T, le_F, lt_T, lt_F, eq_T, eq_F, cN, plus_n, mul_n, rem_n, div_n, sub_n, re_T, re_F, rl_wr, rd_wl, ne_m1, m1_ne, m1_lt, m1_le, m1_ge, m1_gt, m1_refl, ↓reduceIte, L0, L1, L2, L3, L4, L5, L6, L7, L8, L9, L10, L11, L15, L16, L17, L18, L20, L24, L26, L28, L31, L32, L35, L36, L48, L57, L59, L63, L64, L96, L97, L99, L100, L112, L122, L128, L200, L255, L256, L1000, L1024, L2000, L3000, L1000000, L1000000007]
    · refine ⟨nI 0, S1, S2, ?_, hm _ ?_, hF⟩
      · rw [a1, bd_some, if_neg (by rw [show (0 : Int32) = nI 0 from rfl, eq_n (by omega) (by omega)]; exact c), p3]
      · rw [if_neg (by rw [show (0 : Int32) = nI 0 from rfl, eq_n (by omega) (by omega)]; exact c)]
        exact saidL_far (r := nib x) hI1 a9
  · have hJ : J = nI j := by
      rcases a8 with ⟨e, -⟩ | ⟨i, -, i2, e⟩
      · exact absurd (e j) p2.1
      · rw [e, i2.uniq p2]
    have hj2 : j ≤ 300 * k + 200 := by
      rcases a8 with ⟨e, -⟩ | ⟨i, i1, i2, e⟩
      · exact absurd (e j) p2.1
      · rw [i2.uniq p2] at i1; exact i1
    subst hJ
    by_cases c : y = 0
    · subst c
      refine ⟨nI j, S1, S2, ?_, hm _ ?_, hF⟩
      · rw [a1, bd_some]; unfold f_X6_leastJar; simp (disch := omega) only [md_n, lt_eq, bd_some, gN, gN2, le_T, le_F, lt_T, lt_F, eq_T, eq_F, cN, plus_n, mul_n, rem_n, div_n, sub_n, re_T, re_F, rl_wr, rd_wl, ne_m1, m1_ne, m1_lt, m1_le, m1_ge, m1_gt, m1_refl, ↓reduceIte, L0, L1, L2, L3, L4, L5, L6, L7, L8, L9, L10, L11, L15, L16, L17, L18, L20, L24, L26, L28, L31, L32, L35, L36, L48, L57, L59, L63, L64, L96, L97, L99, L100, L112, L122, L128, L200, L255, L256, L1000, L1024, L2000, L3000, L1000000, L1000000007, p3]
      · simp (disch := omega) only [md_n, lt_eq, bd_some, gN, gN2, le_T, le_F, lt_T, lt_F, eq_T, eq_F, cN, plus_n, mul_n, rem_n, div_n, sub_n, re_T, re_F, rl_wr, rd_wl, ne_m1, m1_ne, m1_lt, m1_le, m1_ge, m1_gt, m1_refl, ↓reduceIte, L0, L1, L2, L3, L4, L5, L6, L7, L8, L9, L10, L11, L15, L16, L17, L18, L20, L24, L26, L28, L31, L32, L35, L36, L48, L57, L59, L63, L64, L96, L97, L99, L100, L112, L122, L128, L200, L255, L256, L1000, L1024, L2000, L3000, L1000000, L1000000007]
    · refine ⟨nI (T j % 1000000007), S1, S2, ?_, hm _ ?_, hF⟩
      · rw [a1, bd_some, if_neg (by rw [show (0 : Int32) = nI 0 from rfl, eq_n (by omega) (by omega)]; exact c), p4]
      · rw [if_neg (by rw [show (0 : Int32) = nI 0 from rfl, eq_n (by omega) (by omega)]; exact c)]
        have := saidL_ok hI1 (show k ≤ 15 by omega) a9 a10 (by rw [hT]; exact p2) hj2
        rw [hT] at this
        exact this
