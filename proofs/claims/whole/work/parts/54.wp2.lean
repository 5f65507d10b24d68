theorem wp_ok {S : St} {v n q k : Nat} {r : Nat → Nat} {p : Nat} {G : Nat → Pl} {a : St} (hI : I_pcs S) (hc : I_cut S) (hp : p < nP S) (hv : pv S p = v) (hn : n ≤ 16) (hk : q + (k + 1) = n) (hr : r q < 16)
    (hf : fr Xw S a) (hrow : rd a 4 q = nI (r q))
    (hrest : ∀ i, i < pl S p → rp (rd a 7 ((q + 1) * 100 + tn S p i)) (rd a 8 ((q + 1) * 100 + tn S p i)) (DT S v n r k (tn S p i)) (300 * k))
    (hin : ∀ i, i < pl S p → rp (rd a 9 (p * 8 + i)) (rd a 10 (p * 8 + i)) (DI S v n r k p i) (300 * k))
    (hbg : ∀ t, us S v t = true → rp (rd a 11 t) (rd a 12 t) (G t) (300 * k + 200)) :
    ∃ a', f_X6_weighPiece (nI p) (nI q) a = some ((), a') ∧ Pwp S v n r k p G a (pl S p) a' := by
  have h16 := hI.1
  have hk16 : k ≤ 15 := by omega
  have hcut := hc.1
  have hct := hc.2.2
  obtain ⟨-, -, -, -, c1, c2, c3, c4, c5⟩ := pf_p hI (fun _ _ _ => rfl) hp
  unfold f_X6_weighPiece
  rw [gd_t (pin (pf_n (Xw_pc hf)) h16 hp), lt_eq, cN (by omega)]
  refine loopC (fun f (b : St) i => f_X6_weighPiece_L13 (fun S56 => some ((), S56)) (nI p) (nI q) p f (nI i) b) (fun x => ∃ a', x = some ((), a') ∧ Pwp S v n r k p G a (pl S p) a') (fun i b => Pwp S v n r k p G a i b) (pl S p) ?_ ?_ (pl S p) 0 FU a (by omega) (by unfold FU; omega) ⟨fr.refl _ _, fun m hm => by omega, fun m _ hm => hin m hm, fun t ht => (hbg t ht).to (by funext j; unfold GI; rw [sN, Nat.add_zero])⟩
  · intro f b hb
    have hfb : fr Xw S b := hf.trans (hb.1.mono (fun c j hc => by unfold Xp at hc; unfold Xw; omega))
    obtain ⟨d0, d1, d2, d5, -⟩ := pf_p hI (Xw_pc hfb) hp
    refine ⟨b, ?_, hb⟩
    rw [f_X6_weighPiece_L13]
    simp (disch := omega) only [md_n, lt_eq, bd_some, gN, gN2, le_T, le_F, lt_T, lt_F, eq_T, eq_F, cN, plus_n, mul_n, rem_n, div_n, sub_n, re_T, re_F, rl_wr, rd_wl, ne_m1, m1_ne, m1_lt, m1_le, m1_ge, m1_gt, m1_refl, ↓reduceIte, L0, L1, L2, L3, L4, L5, L6, L7, L8, L9, L10, L11, L15, L16, L17, L18, L20, L24, L26, L28, L31, L32, L35, L36, L48, L57, L59, L63, L64, L96, L97, L99, L100, L112, L122, L128, L200, L255, L256, L1000, L1024, L2000, L3000, L1000000, L1000000007, d1]
  · intro f b i hi hb
    right
    have hfb : fr Xw S b := hf.trans (hb.1.mono (fun c j hc => by unfold Xp at hc; unfold Xw; omega))
    obtain ⟨d0, d1, d2, d5, -⟩ := pf_p hI (Xw_pc hfb) hp
    obtain ⟨d6, d7, -⟩ := pf_t hI (Xw_pc hfb) hp hi
    have hct1 : rd b 3 4 = nI (ct S) := by rw [hfb 3 4 (by unfold Xw; omega)]; exact hcut
    have hrow1 : rd b 4 q = nI (r q) := by rw [hb.1 4 q (by unfold Xp; omega)]; exact hrow
    -- the place is cleared
    generalize hb1 : wr (wr b 9 (p * 8 + i) (nI 1000000)) 10 (p * 8 + i) (nI 0) = b1
    have g9 : rd b1 9 (p * 8 + i) = nI 1000000 := by rw [← hb1, rw_ne (by omega), rw_eq]
    have g10 : rd b1 10 (p * 8 + i) = nI 0 := by rw [← hb1, rw_eq]
    have g : fr (fun c j => (c = 9 ∨ c = 10) ∧ j = p * 8 + i) b b1 := by rw [← hb1]; exact ((fr.refl _ _).wr (by omega)).wr (by omega)
    have e1 : rd b1 (200 + 2 * p) 0 = nI (px S p) := by rw [g _ _ (by omega)]; exact d0
    have e2 : rd b1 (200 + 2 * p) 1 = nI (pl S p) := by rw [g _ _ (by omega)]; exact d1
    have e3 : rd b1 (200 + 2 * p) 5 = nI (lst S p) := by rw [g _ _ (by omega)]; exact d5
    have e4 : rd b1 4 q = nI (r q) := by rw [g _ _ (by omega)]; exact hrow1
    have e5 : rd b1 (200 + 2 * p + 1) i = nI (tn S p i) := by rw [g _ _ (by omega)]; exact d6
    have e6 : rd b1 3 4 = nI (ct S) := by rw [g _ _ (by omega)]; exact hct1
    have hs := says_ok (i := i) (s := r q) e1 e3 c1 c5 (by omega) hr
    have hDI := DI_s S v n r k p i
    have hq : n - (k + 1) = q := by omega
    rw [hq] at hDI
    have hus : us S v (tn S p i) = true := us_iff.mpr ⟨p, hp, hv, i, hi, rfl⟩
    cases hsy : sy S r p i q
    · -- it does not say it
      have hs2 : f_X3_says p (nI i) (nI (r q)) b1 = some (nI 0, b1) := by rw [hs]; unfold sy at hsy; rw [hsy]; rfl
      rw [hsy, if_neg (by decide)] at hDI
      refine ⟨b1, ?_, Pwp.step (by omega) hb (g.mono (fun c j h => Or.inl h)) ?_ ?_⟩
      · rw [f_X6_weighPiece_L13]
        simp (disch := omega) only [md_n, lt_eq, bd_some, gN, gN2, le_T, le_F, lt_T, lt_F, eq_T, eq_F, cN, plus_n, mul_n, rem_n, div_n, sub_n, re_T, re_F, rl_wr, rd_wl, ne_m1, m1_ne, m1_lt, m1_le, m1_ge, m1_gt, m1_refl, ↓reduceIte, L0, L1, L2, L3, L4, L5, L6, L7, L8, L9, L10, L11, L15, L16, L17, L18, L20, L24, L26, L28, L31, L32, L35, L36, L48, L57, L59, L63, L64, L96, L97, L99, L100, L112, L122, L128, L200, L255, L256, L1000, L1024, L2000, L3000, L1000000, L1000000007, d1, hb1, e4, hrow1, hs2]
      · rw [g9, g10, hDI]; exact rp_z (fun _ => rfl)
      · rw [g 11 _ (by omega), g 12 _ (by omega)]
        refine (hb.2.2.2 _ hus).to ?_
        funext j
        rw [hDI, sh_zero _ (fun _ => rfl), Nat.add_zero]
    · have hs2 : f_X3_says p (nI i) (nI (r q)) b1 = some (nI 1, b1) := by rw [hs]; unfold sy at hsy; rw [hsy]; rfl
      rw [hsy, if_pos rfl] at hDI
      have hE := cutsE_ok (i := i) e2 c2 c3 hi
      have hcE := cE_lt hc p i
      have hcB := cB_lt hc i
      have hre := hrest i hi
      have f7 : rd b1 7 ((q + 1) * 100 + tn S p i) = rd a 7 ((q + 1) * 100 + tn S p i) := by rw [g _ _ (by omega), hb.1 _ _ (by unfold Xp; omega)]
      have f8 : rd b1 8 ((q + 1) * 100 + tn S p i) = rd a 8 ((q + 1) * 100 + tn S p i) := by rw [g _ _ (by omega), hb.1 _ _ (by unfold Xp; omega)]
      rw [← f7, ← f8] at hre
      obtain ⟨b2, o1, o2, o3⟩ := offer_ok (S := b1) (A := 9) (B := 10) (k := p * 8 + i) (N := 128) (b := 300 * k + 100) (P := fun _ => 0) rfl rfl (by omega) (by decide) (by decide) (by rw [g9, g10]; exact rp_z (fun _ => rfl)) ((hre.mv (cE S p i) (by omega)).mono (by omega)) (by omega)
      have k1 : rd b2 (200 + 2 * p) 1 = nI (pl S p) := by rw [o3 _ _ (by omega)]; exact e2
      have k6 : rd b2 3 4 = nI (ct S) := by rw [o3 _ _ (by omega)]; exact e6
      by_cases c : i + 1 < pl S p
      · have hin2 := hb.2.2.1 (i + 1) (by omega) c
        rw [← Nat.add_assoc] at hin2
        have m9 : rd b2 9 (p * 8 + i + 1) = rd b 9 (p * 8 + i + 1) := by rw [o3 _ _ (by omega), g _ _ (by omega)]
        have m10 : rd b2 10 (p * 8 + i + 1) = rd b 10 (p * 8 + i + 1) := by rw [o3 _ _ (by omega), g _ _ (by omega)]
        rw [← m9, ← m10] at hin2
        obtain ⟨b3, u1, u2, u3⟩ := offer_ok (S := b2) (A := 9) (B := 10) (k := p * 8 + i) (N := 128) (b := 300 * k + 100) rfl rfl (by omega) (by decide) (by decide) o2 (hin2.q.mono (by omega)) (by omega)
        have hD3 : rp (rd b3 9 (p * 8 + i)) (rd b3 10 (p * 8 + i)) (DI S v n r (k + 1) p i) (300 * k + 100) := by
          refine u2.to ?_
          rw [hDI]
          funext j
          rw [if_pos c, Nat.zero_add]
        have n6 : rd b3 3 4 = nI (ct S) := by rw [u3 _ _ (by omega)]; exact k6
        have hg3 := hb.2.2.2 _ hus
        rw [← g 11 _ (by omega), ← g 12 _ (by omega), ← o3 11 _ (by omega), ← o3 12 _ (by omega), ← u3 11 _ (by omega), ← u3 12 _ (by omega)] at hg3
        obtain ⟨b4, w1, w2, w3⟩ := offer_ok (S := b3) (A := 11) (B := 12) (k := tn S p i) (N := 100) (b := 300 * k + 200) rfl rfl d7 (by decide) (by decide) hg3 ((hD3.mv (cB S i) (by omega)).mono (by omega)) (by omega)
        refine ⟨b4, ?_, Pwp.step (by omega) hb ((((g.mono (fun c j h => Or.inl h)).trans (o3.mono (fun c j h => Or.inl (by omega)))).trans (u3.mono (fun c j h => Or.inl (by omega)))).trans (w3.mono (fun c j h => Or.inr (by omega)))) ?_ w2⟩
        · rw [f_X6_weighPiece_L13]
          simp (disch := omega) only [md_n, lt_eq, bd_some, gN, gN2, le_T, le_F, lt_T, lt_F, eq_T, eq_F, cN, plus_n, mul_n, rem_n, div_n, sub_n, re_T, re_F, rl_wr, rd_wl, ne_m1, m1_ne, m1_lt, m1_le, m1_ge, m1_gt, m1_refl, ↓reduceIte, L0, L1, L2, L3, L4, L5, L6, L7, L8, L9, L10, L11, L15, L16, L17, L18, L20, L24, L26, L28, L31, L32, L35, L36, L48, L57, L59, L63, L64, L96, L97, L99, L100, L112, L122, L128, L200, L255, L256, L1000, L1024, L2000, L3000, L1000000, L1000000007, d1, hb1, e4, hrow1, hs2, e5, hE, e6, cE_mul, cB_mul, o1, k1, u1, cutsB_ok, n6, w1]
        · rw [w3 9 _ (by omega), w3 10 _ (by omega)]; exact hD3
      · have hD3 : rp (rd b2 9 (p * 8 + i)) (rd b2 10 (p * 8 + i)) (DI S v n r (k + 1) p i) (300 * k + 100) := by
          refine o2.to ?_
          rw [hDI]
          funext j
          rw [if_neg c, Nat.zero_add, Nat.add_zero]
        have hg3 := hb.2.2.2 _ hus
        rw [← g 11 _ (by omega), ← g 12 _ (by omega), ← o3 11 _ (by omega), ← o3 12 _ (by omega)] at hg3
        obtain ⟨b4, w1, w2, w3⟩ := offer_ok (S := b2) (A := 11) (B := 12) (k := tn S p i) (N := 100) (b := 300 * k + 200) rfl rfl d7 (by decide) (by decide) hg3 ((hD3.mv (cB S i) (by omega)).mono (by omega)) (by omega)
        refine ⟨b4, ?_, Pwp.step (by omega) hb (((g.mono (fun c j h => Or.inl h)).trans (o3.mono (fun c j h => Or.inl (by omega)))).trans (w3.mono (fun c j h => Or.inr (by omega)))) ?_ w2⟩
        · rw [f_X6_weighPiece_L13]
          simp (disch := omega) only [md_n, lt_eq, bd_some, gN, gN2, le_T, le_F, lt_T, lt_F, eq_T, eq_F, cN, plus_n, mul_n, rem_n, div_n, sub_n, re_T, re_F, rl_wr, rd_wl, ne_m1, m1_ne, m1_lt, m1_le, m1_ge, m1_gt, m1_refl, ↓reduceIte, L0, L1, L2, L3, L4, L5, L6, L7, L8, L9, L10, L11, L15, L16, L17, L18, L20, L24, L26, L28, L31, L32, L35, L36, L48, L57, L59, L63, L64, L96, L97, L99, L100, L112, L122, L128, L200, L255, L256, L1000, L1024, L2000, L3000, L1000000, L1000000007, d1, hb1, e4, hrow1, hs2, e5, hE, e6, cE_mul, cB_mul, o1, k1, cutsB_ok, k6, w1]
        · rw [w3 9 _ (by omega), w3 10 _ (by omega)]; exact hD3
