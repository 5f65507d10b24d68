theorem toL {n : Nat} (h : n < 2147483648) : Int32.toInt64 (nI n) = lN n := nI_l (by omega)
def laid (S : St) (v n : Nat) (r : Nat → Nat) (u : Nat) (b : St) : Prop := ∀ C, C < 64 * nP S → rp (rd b 61 (1024 * u + C)) (rd b 62 (1024 * u + C)) (LB S v n r (n - 1 - u) C) (300 * (n - 1 - u) + 200)
theorem LB_nz {S : St} {v n : Nat} {r : Nat → Nat} {k C j : Nat} (h : LB S v n r k C j ≠ 0) : pv S (C / 64) = v ∧ C / 8 % 8 + C % 8 < pl S (C / 64) ∧ C % 8 ≤ k ∧ rn S r (C / 64) (C % 8) (C / 8 % 8) (n - (k + 1)) = true := by
  apply Classical.byContradiction
  intro c
  unfold LB at h
  rw [if_neg c] at h
  exact h rfl
theorem goOnL_ok {S b : St} {v n q k B p i m u : Nat} {r : Nat → Nat} (hI : I_pcs S) (hf : fr Xm S b) (hn : n ≤ 16) (hk : u + (k + 1) = n) (hp : p < nP S) (him : i + m < pl S p) (hL : laid S v n r u b) (K : Int32 → Int64 → St → Option (Unit × St)) :
    ∃ J z, rl2 J z (DT S v n r (k + 1) (tn S p (i + m))) (300 * (k + 1)) 1024 ∧ f_X11_goOn_L59 K (nI q) (nI B) (nI n) (nI p) (nI i) (nI (m + 1)) (nI u) FU (nI 1000000) (lN 0) (nI 0) b = K J z b := by
  have h16 := hI.1
  have hP := Xm_pc hf
  obtain ⟨d0, d1, d2, d3, d4, d5, c2, c3, c4⟩ := pm_p hI hP hp
  have ht := tn_lt hI p (i + m) hp him
  generalize htt : tn S p (i + m) = t at *
  have e5 : f_X11_toneOf (nI p) (nI (i + (m + 1) - 1)) b = some (nI t, b) := by rw [show i + (m + 1) - 1 = i + m by omega, d5 _ him, htt]
  have hsum : DT S v n r (k + 1) t = fun j => sN (64 * nP S) (fun c => sh (dst t (tn S (c / 64) (c / 8 % 8))) (LB S v n r k c) j) := by
    rw [DT_s]; funext j; exact (LB_sum hI (by omega) (fun p i => dst t (tn S p i)) j).symm
  rw [hsum]
  have hku : n - 1 - u = k := by omega
  refine loopC (fun f (a : Int32 × Int64) C => f_X11_goOn_L59 K (nI q) (nI B) (nI n) (nI p) (nI i) (nI (m + 1)) (nI u) f a.1 a.2 (nI C) b) (fun x => ∃ J z, rl2 J z (fun j => sN (64 * nP S) (fun c => sh (dst t (tn S (c / 64) (c / 8 % 8))) (LB S v n r k c) j)) (300 * (k + 1)) 1024 ∧ x = K J z b)
    (fun C a => rl2 a.1 a.2 (fun j => sN C (fun c => sh (dst t (tn S (c / 64) (c / 8 % 8))) (LB S v n r k c) j)) (300 * (k + 1)) C) (64 * nP S) ?_ ?_ (64 * nP S) 0 FU (nI 1000000, lN 0) (by omega) (by unfold FU; omega) (Or.inl ⟨fun _ => rfl, rfl, rfl⟩)
  · rintro f ⟨J, z⟩ ha
    refine ⟨J, z, ?_, ?_⟩
    · rcases ha with ha | ⟨j, s, a1, a2, a3, a4, a5, a6⟩
      · exact Or.inl ha
      · exact Or.inr ⟨j, s, a1, a2, a3, a4, a5, Nat.le_trans a6 (Nat.mul_le_mul_right _ (by omega))⟩
    · show f_X11_goOn_L59 _ _ _ _ _ _ _ _ _ _ _ _ _ = _
      rw [f_X11_goOn_L59]
      simp (disch := omega) only [md_n, lt_eq, bd_some, gN, gN2, le_T, le_F, lt_T, lt_F, eq_T, eq_F, cN, plus_n, mul_n, rem_n, div_n, sub_n, re_T, re_F, rl_wr, rd_wl, ne_m1, m1_ne, m1_lt, m1_le, m1_ge, m1_gt, m1_refl, ↓reduceIte, L0, L1, L2, L3, L4, L5, L6, L7, L8, L9, L10, L11, L15, L16, L17, L18, L20, L24, L26, L28, L31, L32, L35, L36, L48, L57, L59, L63, L64, L96, L97, L99, L100, L112, L122, L128, L200, L255, L256, L1000, L1024, L2000, L3000, L1000000, L1000000007, d0]
  · rintro f ⟨J, z⟩ C hC ha
    right
    have hC1 : C / 64 < nP S := by omega
    have hC2 : C / 8 % 8 < 8 := by omega
    have hlb := hL C hC
    rw [hku] at hlb
    show ∃ a' : Int32 × Int64, _ ∧ rl2 a'.1 a'.2 (fun j => sN C (fun c => sh (dst t (tn S (c / 64) (c / 8 % 8))) (LB S v n r k c) j) + sh (dst t (tn S (C / 64) (C / 8 % 8))) (LB S v n r k C) j) _ _
    generalize hPP : (fun j => sN C (fun c => sh (dst t (tn S (c / 64) (c / 8 % 8))) (LB S v n r k c) j)) = P at *
    rw [show (fun j => sN C (fun c => sh (dst t (tn S (c / 64) (c / 8 % 8))) (LB S v n r k c) j) + sh (dst t (tn S (C / 64) (C / 8 % 8))) (LB S v n r k C) j) = fun j => P j + sh (dst t (tn S (C / 64) (C / 8 % 8))) (LB S v n r k C) j by rw [← hPP]]
    clear hPP
    rcases hlb with ⟨q1, q2, q3⟩ | ⟨w, q1, q2, q3, q4⟩
    · -- no way there
      refine ⟨(J, z), ?_, ?_⟩
      · show f_X11_goOn_L59 _ _ _ _ _ _ _ _ _ _ _ _ _ = _
        rw [f_X11_goOn_L59]
        simp (disch := omega) only [md_n, lt_eq, bd_some, gN, gN2, le_T, le_F, lt_T, lt_F, eq_T, eq_F, cN, plus_n, mul_n, rem_n, div_n, sub_n, re_T, re_F, rl_wr, rd_wl, ne_m1, m1_ne, m1_lt, m1_le, m1_ge, m1_gt, m1_refl, ↓reduceIte, L0, L1, L2, L3, L4, L5, L6, L7, L8, L9, L10, L11, L15, L16, L17, L18, L20, L24, L26, L28, L31, L32, L35, L36, L48, L57, L59, L63, L64, L96, L97, L99, L100, L112, L122, L128, L200, L255, L256, L1000, L1024, L2000, L3000, L1000000, L1000000007, d0, q2]
      · rw [show (fun j => P j + sh (dst t (tn S (C / 64) (C / 8 % 8))) (LB S v n r k C) j) = P by funext j; rw [sh_zero _ q1, Nat.add_zero]]
        rcases ha with ha | ⟨j, s, a1, a2, a3, a4, a5, a6⟩
        · exact Or.inl ha
        · exact Or.inr ⟨j, s, a1, a2, a3, a4, a5, Nat.le_trans a6 (Nat.mul_le_mul_right _ (by omega))⟩
    · have hnz := LB_nz q2.1
      have hi2 : C / 8 % 8 < pl S (C / 64) := by omega
      obtain ⟨g0, g1, g2, g3, g4, g5, g6, g7, g8⟩ := pm_p hI hP hC1
      have e6 := g5 _ hi2
      have ht2 := tn_lt hI _ _ hC1 hi2
      have hd := dst_lt ht ht2
      have e7 := apart_n (a := t) (b := tn S (C / 64) (C / 8 % 8)) (by omega) (by omega) b
      have hm := Nat.mod_lt (LB S v n r k C w) (show 1000000007 > 0 by decide)
      have q4' : Int32.toInt64 (rd b 62 (1024 * u + C)) = lN (LB S v n r k C w % 1000000007) := by rw [q4, toL (by omega)]
      generalize hdd : dst t (tn S (C / 64) (C / 8 % 8)) = d at *
      have hQ := q2.mv d
      have hQv : sh d (LB S v n r k C) (w + d) = LB S v n r k C w := by unfold sh; rw [if_pos (by omega), Nat.add_sub_cancel]
      generalize hQQ : sh d (LB S v n r k C) = Q at *
      rw [← hQv] at q4' hm
      rcases ha with ⟨p1, p2, p3⟩ | ⟨j, s, p1, p2, p3, p4, p5, p6⟩
      · replace p2 : J = nI 1000000 := p2
        subst p2
        refine ⟨(nI (w + d), lN (Q (w + d) % 1000000007)), ?_, ?_⟩
        · show f_X11_goOn_L59 _ _ _ _ _ _ _ _ _ _ _ _ _ = _
          rw [f_X11_goOn_L59]
          simp (disch := omega) only [md_n, lt_eq, bd_some, gN, gN2, le_T, le_F, lt_T, lt_F, eq_T, eq_F, cN, plus_n, mul_n, rem_n, div_n, sub_n, re_T, re_F, rl_wr, rd_wl, ne_m1, m1_ne, m1_lt, m1_le, m1_ge, m1_gt, m1_refl, ↓reduceIte, L0, L1, L2, L3, L4, L5, L6, L7, L8, L9, L10, L11, L15, L16, L17, L18, L20, L24, L26, L28, L31, L32, L35, L36, L48, L57, L59, L63, L64, L96, L97, L99, L100, L112, L122, L128, L200, L255, L256, L1000, L1024, L2000, L3000, L1000000, L1000000007, d0, q3, e5, e6, e7, q4']
        · rw [show (fun j => P j + Q j) = Q by funext j; rw [p1 j, Nat.zero_add]]
          exact Or.inr ⟨w + d, Q (w + d) % 1000000007, by omega, hQ, rfl, rfl, Nat.mod_mod _ _, by omega⟩
      · replace p3 : J = nI j := p3
        replace p4 : z = lN s := p4
        subst p3
        subst p4
        rcases Nat.lt_trichotomy (w + d) j with c | c | c
        · refine ⟨(nI (w + d), lN (Q (w + d) % 1000000007)), ?_, ?_⟩
          · show f_X11_goOn_L59 _ _ _ _ _ _ _ _ _ _ _ _ _ = _
            rw [f_X11_goOn_L59]
            simp (disch := omega) only [md_n, lt_eq, bd_some, gN, gN2, le_T, le_F, lt_T, lt_F, eq_T, eq_F, cN, plus_n, mul_n, rem_n, div_n, sub_n, re_T, re_F, rl_wr, rd_wl, ne_m1, m1_ne, m1_lt, m1_le, m1_ge, m1_gt, m1_refl, ↓reduceIte, L0, L1, L2, L3, L4, L5, L6, L7, L8, L9, L10, L11, L15, L16, L17, L18, L20, L24, L26, L28, L31, L32, L35, L36, L48, L57, L59, L63, L64, L96, L97, L99, L100, L112, L122, L128, L200, L255, L256, L1000, L1024, L2000, L3000, L1000000, L1000000007, d0, q3, e5, e6, e7, q4']
          · obtain ⟨a1, a2⟩ := isL_add_l hQ p2 c
            rw [show (fun j => P j + Q j) = fun j => Q j + P j by funext j; exact Nat.add_comm _ _]
            exact Or.inr ⟨w + d, Q (w + d) % 1000000007, by omega, a1, rfl, rfl, by show _ = (Q (w + d) + P (w + d)) % _; rw [a2, Nat.mod_mod], by omega⟩
        · subst c
          refine ⟨(nI (w + d), lN (s + Q (w + d) % 1000000007)), ?_, ?_⟩
          · show f_X11_goOn_L59 _ _ _ _ _ _ _ _ _ _ _ _ _ = _
            rw [f_X11_goOn_L59]
            simp (disch := omega) only [md_n, lt_eq, bd_some, gN, gN2, le_T, le_F, lt_T, lt_F, eq_T, eq_F, cN, plus_n, mul_n, rem_n, div_n, sub_n, re_T, re_F, rl_wr, rd_wl, ne_m1, m1_ne, m1_lt, m1_le, m1_ge, m1_gt, m1_refl, ↓reduceIte, L0, L1, L2, L3, L4, L5, L6, L7, L8, L9, L10, L11, L15, L16, L17, L18, L20, L24, L26, L28, L31, L32, L35, L36, L48, L57, L59, L63, L64, L96, L97, L99, L100, L112, L122, L128, L200, L255, L256, L1000, L1024, L2000, L3000, L1000000, L1000000007, d0, q3, e5, e6, e7, q4', lN_add]
          · refine Or.inr ⟨w + d, s + Q (w + d) % 1000000007, by omega, ⟨?_, fun k hk => ?_⟩, rfl, rfl, ?_, by omega⟩
            · have := p2.1; show P (w + d) + Q (w + d) ≠ 0; omega
            · show P k + Q k = 0; rw [p2.2 k hk, hQ.2 k hk]
            · show _ = (P (w + d) + Q (w + d)) % _
              rw [Nat.add_mod, p5, Nat.mod_mod, ← Nat.add_mod]
        · refine ⟨(nI j, lN s), ?_, ?_⟩
          · show f_X11_goOn_L59 _ _ _ _ _ _ _ _ _ _ _ _ _ = _
            rw [f_X11_goOn_L59]
            simp (disch := omega) only [md_n, lt_eq, bd_some, gN, gN2, le_T, le_F, lt_T, lt_F, eq_T, eq_F, cN, plus_n, mul_n, rem_n, div_n, sub_n, re_T, re_F, rl_wr, rd_wl, ne_m1, m1_ne, m1_lt, m1_le, m1_ge, m1_gt, m1_refl, ↓reduceIte, L0, L1, L2, L3, L4, L5, L6, L7, L8, L9, L10, L11, L15, L16, L17, L18, L20, L24, L26, L28, L31, L32, L35, L36, L48, L57, L59, L63, L64, L96, L97, L99, L100, L112, L122, L128, L200, L255, L256, L1000, L1024, L2000, L3000, L1000000, L1000000007, d0, q3, e5, e6, e7]
          · obtain ⟨a1, a2⟩ := isL_add_l p2 hQ c
            exact Or.inr ⟨j, s, p1, a1, rfl, rfl, p5.trans (congrArg (fun x => x % 1000000007) a2.symm), Nat.le_trans p6 (Nat.mul_le_mul_right _ (Nat.le_succ C))⟩
