theorem cde_facts {C : Nat} (h : C < 1024) : nI (cde C) &&& (15 : Int32) = nI (C % 8 + 1) ∧ ushr (nI (cde C)) (8 : Int32) = nI (C / 64) ∧ ushr (nI (cde C)) (4 : Int32) &&& (15 : Int32) = nI (C / 8 % 8) := by
  refine ⟨?_, ?_, ?_⟩
  · rw [and15_n]; congr 1; unfold cde; omega
  · rw [show (8 : Int32) = nI 8 from rfl, ushr_n (by unfold cde; omega) (by decide), Nat.shiftRight_eq_div_pow]; congr 1; unfold cde; omega
  · rw [show (4 : Int32) = nI 4 from rfl, ushr_n (by unfold cde; omega) (by decide), and15_n, Nat.shiftRight_eq_div_pow]; congr 1; unfold cde; omega
theorem tn_us {S : St} {v n : Nat} {r : Nat → Nat} {k due C : Nat} {to : Option Nat} (h : fstC S v n r k to due C) : us S v (tn S (C / 64) (C / 8 % 8 + C % 8)) = true ∧ C / 64 < nP S ∧ C / 8 % 8 + C % 8 < pl S (C / 64) ∧ C % 8 ≤ k ∧ ∃ d, isL (DT S v n r (k - C % 8) (tn S (C / 64) (C / 8 % 8 + C % 8))) d := by
  obtain ⟨h1, ⟨g1, g2, g3, g4, d, g5, -⟩, -⟩ := h
  have hp : C / 64 < nP S := by omega
  exact ⟨us_iff.mpr ⟨_, hp, g1, _, g2, rfl⟩, hp, g2, g3, d, g5⟩
theorem findL_ok {S : St} {v n : Nat} {r : Nat → Nat} (hI : I_pcs S) (hc : I_cut S) (hv4 : v < 4) (hn : n ≤ 16) (hr : ∀ x, r x < 16) : ∀ (rem q : Nat) (to : Option Nat) (due s : Nat) (a : St) (f : Nat), q + rem = n → rem < f → s + rem ≤ 16 → due ≤ 10000 → (∀ t, to = some t → t < 100) → (0 < rem → isL (tgt S v n r rem to) due) → Ws S v n r a → Wr S v n r n a → rd a 3 17 = nI s →
    ∃ L a', f_X6_findFirst_L24 (fun S32 => some ((), S32)) (fun S33 => some ((), S33)) f (nI q) (tI to) (nI due) a = some ((), a') ∧ PathR S v n r L rem to due ∧ rd a' 3 17 = nI (s + L.length) ∧ s + L.length ≤ 16 ∧ (∀ i, i < L.length → rd a' 13 (s + i) = nI (cde (L.getD i 0))) ∧ (∀ i, i < s → rd a' 13 i = rd a 13 i) ∧ fr Xw S a' := by
  intro rem
  induction rem using Nat.strongRecOn with
  | _ rem ih =>
    intro q to due s a f hq hf hs hd hto hT hW hR h17
    obtain ⟨f, rfl⟩ : ∃ g, f = g + 1 := ⟨f - 1, by omega⟩
    have h16 := hI.1
    have e32 := hW.2.2.1
    by_cases c0 : rem = 0
    · subst c0
      refine ⟨[], a, ?_, rfl, h17, by simp; omega, fun i hi => by simp at hi, fun i hi => rfl, hW.1⟩
      rw [f_X6_findFirst_L24]
      simp (disch := omega) only [md_n, lt_eq, bd_some, gN, gN2, le_T, le_F, lt_T, lt_F, eq_T, eq_F, cN, plus_n, mul_n, rem_n, div_n, sub_n, re_T, re_F, rl_wr, rd_wl, ne_m1, m1_ne, m1_lt, m1_le, m1_ge, m1_gt, m1_refl, ↓reduceIte, L0, L1, L2, L3, L4, L5, L6, L7, L8, L9, L10, L11, L15, L16, L17, L18, L20, L24, L26, L28, L31, L32, L35, L36, L48, L57, L59, L63, L64, L96, L97, L99, L100, L112, L122, L128, L200, L255, L256, L1000, L1024, L2000, L3000, L1000000, L1000000007, e32]
    · obtain ⟨k, rfl⟩ : ∃ k, rem = k + 1 := ⟨rem - 1, by omega⟩
      obtain ⟨C, hC⟩ := good_ex hI (by omega) (hT (by omega))
      obtain ⟨u1, u2, u3, u4, d, u5⟩ := tn_us hC
      have hC1 := hC.1
      have hfb := firstBit_ok hI hc hv4 hW hR hn hr hq hd hto hC
      obtain ⟨x1, x2, x3⟩ := cde_facts (show C < 1024 by omega)
      have hcd : cde C < 5000 := by unfold cde; omega
      obtain ⟨t1, t2, -⟩ := pf_t hI (Xw_pc hW.1) u2 u3
      generalize ha2 : wr (wr a 13 s (nI (cde C))) 3 17 (nI (s + 1)) = a2
      have g : fr (fun c j => (c = 13 ∧ j = s) ∨ (c = 3 ∧ j = 17)) a a2 := by rw [← ha2]; exact ((fr.refl _ _).wr (by omega)).wr (by omega)
      have hW2 : Ws S v n r a2 := hW.go (g.mono (fun c j h => by omega))
      have hR2 : Wr S v n r n a2 := fun m hm hmn t ht => by rw [g _ _ (by omega), g _ _ (by omega)]; exact hR m hm hmn t ht
      have y1 : rd a2 (200 + 2 * (C / 64) + 1) (C / 8 % 8 + (C % 8 + 1) - 1) = nI (tn S (C / 64) (C / 8 % 8 + C % 8)) := by rw [g _ _ (by omega)]; exact t1
      have hre := DT_bd hR2 (show k - C % 8 < n by omega) u1
      rw [show n - (k - C % 8) = q + (C % 8 + 1) by omega] at hre
      have hre2 : d ≤ 300 * (k - C % 8) ∧ rd a2 7 ((q + (C % 8 + 1)) * 100 + tn S (C / 64) (C / 8 % 8 + C % 8)) = nI d := by
        rcases hre with ⟨p1, -⟩ | ⟨d', p1, p2, p3, -⟩
        · exact absurd (p1 d) u5.1
        · rw [u5.uniq p2]; exact ⟨p1, p3⟩
      have z17 : rd a2 3 17 = nI (s + 1) := by rw [← ha2, rw_eq]
      obtain ⟨L, a', i1, i2, i3, i4, i5, i6, i7⟩ := ih (k - C % 8) (by omega) (q + (C % 8 + 1)) (some (tn S (C / 64) (C / 8 % 8 + C % 8))) d (s + 1) a2 f (by omega) (by omega) (by omega) (by omega) (fun t ht => by cases ht; exact t2) (fun _ => u5) hW2 hR2 z17
      refine ⟨C :: L, a', ?_, ⟨k, rfl, hC, d, u5, i2⟩, by rw [i3, List.length_cons, show s + 1 + L.length = s + (L.length + 1) by omega], by rw [List.length_cons]; omega, fun i hi => ?_, fun i hi => ?_, i7⟩
      · rw [f_X6_findFirst_L24]
        have t1' : rd a (200 + 2 * (C / 64) + 1) (C / 8 % 8 + (C % 8 + 1) - 1) = nI (tn S (C / 64) (C / 8 % 8 + C % 8)) := t1
        have hd7 : rd a 7 ((q + (C % 8 + 1)) * 100 + tn S (C / 64) (C / 8 % 8 + C % 8)) = nI d := by rw [← g 7 _ (by omega)]; exact hre2.2
        obtain ⟨-, -, -, -, -, -, hpl8, -⟩ := pf_p hI (Xw_pc hW.1) u2
        have hnp : nP a2 = nP S := pf_n (Xw_pc hW2.1)
        have b1 : nI (cde C) = -1 ↔ False := ⟨fun h => of_eq_false (ne_m1 (by omega)) h, False.elim⟩
        simp (disch := omega) only [md_n, lt_eq, bd_some, gN, gN2, le_T, le_F, lt_T, lt_F, eq_T, eq_F, cN, plus_n, mul_n, rem_n, div_n, sub_n, re_T, re_F, rl_wr, rd_wl, ne_m1, m1_ne, m1_lt, m1_le, m1_ge, m1_gt, m1_refl, ↓reduceIte, L0, L1, L2, L3, L4, L5, L6, L7, L8, L9, L10, L11, L15, L16, L17, L18, L20, L24, L26, L28, L31, L32, L35, L36, L48, L57, L59, L63, L64, L96, L97, L99, L100, L112, L122, L128, L200, L255, L256, L1000, L1024, L2000, L3000, L1000000, L1000000007, e32, h17, hfb, ha2, -L15, x1, x2, x3, -L8, -L4, hnp, y1, t1', hd7, hre2.2]
        exact i1
      · cases i with
        | zero =>
          show rd a' 13 (s + 0) = nI (cde C)
          rw [Nat.add_zero, i6 s (by omega), ← ha2, rw_ne (by omega), rw_eq]
        | succ i =>
          have := i5 i (by simp at hi; omega)
          rw [show s + (i + 1) = s + 1 + i by omega]
          exact this
      · rw [i6 i (by omega), g _ _ (by omega)]
theorem findFirst_ok {S a : St} {v n : Nat} {r : Nat → Nat} (hI : I_pcs S) (hc : I_cut S) (hv4 : v < 4) (hn1 : 1 ≤ n) (hn : n ≤ 16) (hr : ∀ x, r x < 16) (hW : Ws S v n r a) (hR : Wr S v n r n a) (hP : rp (rd a 3 14) (rd a 3 15) (Tot S v n r n) (300 * n)) :
    ∃ a', f_X6_findFirst a = some ((), a') ∧ fr Xw S a' ∧ (((∀ j, Tot S v n r n j = 0) ∧ rd a' 3 17 = nI 0) ∨ ∃ due L, isL (Tot S v n r n) due ∧ PathR S v n r L n none due ∧ L ≠ [] ∧ L.length ≤ 16 ∧ rd a' 3 17 = nI L.length ∧ ∀ i, i < L.length → rd a' 13 i = nI (cde (L.getD i 0))) := by
  have g : fr (fun c j => (c = 3 ∧ j = 17)) a (wr a 3 17 (nI 0)) := (fr.refl _ _).wr (by omega)
  have hW2 : Ws S v n r (wr a 3 17 (nI 0)) := hW.go (g.mono (fun c j h => by omega))
  have hR2 : Wr S v n r n (wr a 3 17 (nI 0)) := fun m hm hmn t ht => by rw [g _ _ (by omega), g _ _ (by omega)]; exact hR m hm hmn t ht
  unfold f_X6_findFirst
  rcases hP with ⟨p1, p2, p3⟩ | ⟨j, p1, p2, p3, p4⟩
  · refine ⟨wr a 3 17 (nI 0), ?_, hW2.1, Or.inl ⟨p1, rw_eq⟩⟩
    simp (disch := omega) only [md_n, lt_eq, bd_some, gN, gN2, le_T, le_F, lt_T, lt_F, eq_T, eq_F, cN, plus_n, mul_n, rem_n, div_n, sub_n, re_T, re_F, rl_wr, rd_wl, ne_m1, m1_ne, m1_lt, m1_le, m1_ge, m1_gt, m1_refl, ↓reduceIte, L0, L1, L2, L3, L4, L5, L6, L7, L8, L9, L10, L11, L15, L16, L17, L18, L20, L24, L26, L28, L31, L32, L35, L36, L48, L57, L59, L63, L64, L96, L97, L99, L100, L112, L122, L128, L200, L255, L256, L1000, L1024, L2000, L3000, L1000000, L1000000007, p2]
  · obtain ⟨L, a', i1, i2, i3, i4, i5, i6, i7⟩ := findL_ok hI hc hv4 hn hr n 0 none j 0 (wr a 3 17 (nI 0)) FU (by omega) (by unfold FU; omega) (by omega) (by omega) (fun t ht => by cases ht) (fun _ => p2) hW2 hR2 rw_eq
    refine ⟨a', ?_, i7, Or.inr ⟨j, L, p2, i2, ?_, by omega, by rw [i3, Nat.zero_add], fun i hi => by have := i5 i hi; rw [Nat.zero_add] at this; exact this⟩⟩
    · simp (disch := omega) only [md_n, lt_eq, bd_some, gN, gN2, le_T, le_F, lt_T, lt_F, eq_T, eq_F, cN, plus_n, mul_n, rem_n, div_n, sub_n, re_T, re_F, rl_wr, rd_wl, ne_m1, m1_ne, m1_lt, m1_le, m1_ge, m1_gt, m1_refl, ↓reduceIte, L0, L1, L2, L3, L4, L5, L6, L7, L8, L9, L10, L11, L15, L16, L17, L18, L20, L24, L26, L28, L31, L32, L35, L36, L48, L57, L59, L63, L64, L96, L97, L99, L100, L112, L122, L128, L200, L255, L256, L1000, L1024, L2000, L3000, L1000000, L1000000007, p3]
      exact i1
    · intro h
      subst h
      rw [PathR] at i2
      omega
