/-! ===== said ===== -/
theorem layRow_ok {S : St} (x : Int64) {n : Nat} (hn : n ≤ 16) : ∃ b, f_X11_layRow x (nI n) S = some ((), b) ∧ fr (fun c _ => c = 63) S b ∧ ∀ i, i < n → rd b 63 i = nI (nib x i) := by
  unfold f_X11_layRow
  refine loopC (fun f (b : St) i => f_X11_layRow_L3 (fun S7 => some ((), S7)) x (nI n) f (nI i) b) (fun y => ∃ b, y = some ((), b) ∧ fr (fun c _ => c = 63) S b ∧ ∀ i, i < n → rd b 63 i = nI (nib x i)) (fun i b => fr (fun c _ => c = 63) S b ∧ ∀ m, m < i → rd b 63 m = nI (nib x m)) n ?_ ?_ n 0 FU S (by omega) (by unfold FU; omega) ⟨fr.refl _ _, fun m hm => by omega⟩
  · intro f b ⟨h1, h2⟩
    refine ⟨b, ?_, h1, h2⟩
    rw [f_X11_layRow_L3]
    simp (disch := omega) only [md_n, lt_eq, bd_some, gN, gN2, le_T, le_F, lt_T, lt_F, eq_T, eq_F, cN, plus_n, mul_n, rem_n, div_n, sub_n, re_T, re_F, rl_wr, rd_wl, ne_m1, m1_ne, m1_lt, m1_le, m1_ge, m1_gt, m1_refl, ↓reduceIte, L0, L1, L2, L3, L4, L5, L6, L7, L8, L9, L10, L11, L15, L16, L17, L18, L20, L24, L26, L28, L31, L32, L35, L36, L48, L57, L59, L63, L64, L96, L97, L99, L100, L112, L122, L128, L200, L255, L256, L1000, L1024, L2000, L3000, L1000000, L1000000007]
  · intro f b i hi ⟨h1, h2⟩
    refine Or.inr ⟨wr b 63 i (nI (nib x i)), ?_, h1.wr rfl, fun m hm => ?_⟩
    · show f_X11_layRow_L3 _ _ _ _ _ _ = _
      rw [f_X11_layRow_L3, nib_m x (show i < 16 by omega)]
      simp (disch := omega) only [md_n, lt_eq, bd_some, gN, gN2, le_T, le_F, lt_T, lt_F, eq_T, eq_F, cN, plus_n, mul_n, rem_n, div_n, sub_n, re_T, re_F, rl_wr, rd_wl, ne_m1, m1_ne, m1_lt, m1_le, m1_ge, m1_gt, m1_refl, ↓reduceIte, L0, L1, L2, L3, L4, L5, L6, L7, L8, L9, L10, L11, L15, L16, L17, L18, L20, L24, L26, L28, L31, L32, L35, L36, L48, L57, L59, L63, L64, L96, L97, L99, L100, L112, L122, L128, L200, L255, L256, L1000, L1024, L2000, L3000, L1000000, L1000000007]
    · by_cases c : m = i
      · subst c; rw [rw_eq]
      · rw [rw_ne (Or.inr c)]; exact h2 m (by omega)
theorem Tot_LB {S : St} {v n : Nat} {r : Nat → Nat} {k : Nat} (hI : I_pcs S) (hk : k + 1 ≤ n) : Tot S v n r (k + 1) = fun j => sN (64 * nP S) (fun c => LB S v n r k c j) := by
  funext j
  have := LB_sum (v := v) (n := n) (r := r) (k := k) hI hk (fun _ _ => 0) j
  simp only [sh_0] at this
  exact this.symm
def rj (J : Int32) (P : Pl) (b : Nat) : Prop := ((∀ k, P k = 0) ∧ J = nI 1000000) ∨ ∃ j, j ≤ b ∧ isL P j ∧ J = nI j
theorem leastOf_ok {S b : St} {v k : Nat} {r : Nat → Nat} (hI : I_pcs S) (hk : k ≤ 15) (h54 : rd b 54 0 = nI (nP S)) (hL : laid S v (k + 1) r 0 b) : ∃ J, f_X11_leastOf b = some (J, b) ∧ rj J (Tot S v (k + 1) r (k + 1)) (300 * k + 200) := by
  have h16 := hI.1
  rw [Tot_LB hI (Nat.le_refl _)]
  have hL' : ∀ C, C < 64 * nP S → rp (rd b 61 C) (rd b 62 C) (LB S v (k + 1) r k C) (300 * k + 200) := fun C hC => by
    have := hL C hC
    rw [show k + 1 - 1 - 0 = k by omega, show 1024 * 0 + C = C by omega] at this
    exact this
  unfold f_X11_leastOf
  refine loopC (fun f (J : Int32) C => f_X11_leastOf_L5 (fun x11 S12 => some (x11, S12)) f J (nI C) b) (fun y => ∃ J, y = some (J, b) ∧ rj J (fun j => sN (64 * nP S) (fun c => LB S v (k + 1) r k c j)) (300 * k + 200)) (fun C J => rj J (fun j => sN C (fun c => LB S v (k + 1) r k c j)) (300 * k + 200)) (64 * nP S) ?_ ?_ (64 * nP S) 0 FU (nI 1000000) (by omega) (by unfold FU; omega) (Or.inl ⟨fun _ => rfl, rfl⟩)
  · intro f J h
    refine ⟨J, ?_, h⟩
    show f_X11_leastOf_L5 _ _ _ _ _ = _
    rw [f_X11_leastOf_L5]
    simp (disch := omega) only [md_n, lt_eq, bd_some, gN, gN2, le_T, le_F, lt_T, lt_F, eq_T, eq_F, cN, plus_n, mul_n, rem_n, div_n, sub_n, re_T, re_F, rl_wr, rd_wl, ne_m1, m1_ne, m1_lt, m1_le, m1_ge, m1_gt, m1_refl, ↓reduceIte, L0, L1, L2, L3, L4, L5, L6, L7, L8, L9, L10, L11, L15, L16, L17, L18, L20, L24, L26, L28, L31, L32, L35, L36, L48, L57, L59, L63, L64, L96, L97, L99, L100, L112, L122, L128, L200, L255, L256, L1000, L1024, L2000, L3000, L1000000, L1000000007, h54]
  · intro f J C hC h
    right
    show ∃ a', _ ∧ rj a' (fun j => sN C (fun c => LB S v (k + 1) r k c j) + LB S v (k + 1) r k C j) _
    have hl := hL' C hC
    generalize hPP : (fun j => sN C (fun c => LB S v (k + 1) r k c j)) = P at *
    rw [show (fun j => sN C (fun c => LB S v (k + 1) r k c j) + LB S v (k + 1) r k C j) = fun j => P j + LB S v (k + 1) r k C j by rw [← hPP]]
    clear hPP
    generalize LB S v (k + 1) r k C = Q at *
    rcases hl with ⟨q1, q2, q3⟩ | ⟨w, q1, q2, q3, q4⟩
    · refine ⟨J, ?_, ?_⟩
      · show f_X11_leastOf_L5 _ _ _ _ _ = _
        rw [f_X11_leastOf_L5]
        rcases h with ⟨-, rfl⟩ | ⟨j, p1, p2, rfl⟩
        · simp (disch := omega) only [md_n, lt_eq, bd_some, gN, gN2, le_T, le_F, lt_T, lt_F, eq_T, eq_F, cN, plus_n, mul_n, rem_n, div_n, sub_n, re_T, re_F, rl_wr, rd_wl, ne_m1, m1_ne, m1_lt, m1_le, m1_ge, m1_gt, m1_refl, ↓reduceIte, L0, L1, L2, L3, L4, L5, L6, L7, L8, L9, L10, L11, L15, L16, L17, L18, L20, L24, L26, L28, L31, L32, L35, L36, L48, L57, L59, L63, L64, L96, L97, L99, L100, L112, L122, L128, L200, L255, L256, L1000, L1024, L2000, L3000, L1000000, L1000000007, h54, q2]
        · simp (disch := omega) only [md_n, lt_eq, bd_some, gN, gN2, le_T, le_F, lt_T, lt_F, eq_T, eq_F, cN, plus_n, mul_n, rem_n, div_n, sub_n, re_T, re_F, rl_wr, rd_wl, ne_m1, m1_ne, m1_lt, m1_le, m1_ge, m1_gt, m1_refl, ↓reduceIte, L0, L1, L2, L3, L4, L5, L6, L7, L8, L9, L10, L11, L15, L16, L17, L18, L20, L24, L26, L28, L31, L32, L35, L36, L48, L57, L59, L63, L64, L96, L97, L99, L100, L112, L122, L128, L200, L255, L256, L1000, L1024, L2000, L3000, L1000000, L1000000007, h54, q2]
      · rw [show (fun j => P j + Q j) = P by funext j; rw [q1 j, Nat.add_zero]]; exact h
    · rcases h with ⟨p1, rfl⟩ | ⟨j, p1, p2, rfl⟩
      · refine ⟨nI w, ?_, ?_⟩
        · show f_X11_leastOf_L5 _ _ _ _ _ = _
          rw [f_X11_leastOf_L5]
          simp (disch := omega) only [md_n, lt_eq, bd_some, gN, gN2, le_T, le_F, lt_T, lt_F, eq_T, eq_F, cN, plus_n, mul_n, rem_n, div_n, sub_n, re_T, re_F, rl_wr, rd_wl, ne_m1, m1_ne, m1_lt, m1_le, m1_ge, m1_gt, m1_refl, ↓reduceIte, L0, L1, L2, L3, L4, L5, L6, L7, L8, L9, L10, L11, L15, L16, L17, L18, L20, L24, L26, L28, L31, L32, L35, L36, L48, L57, L59, L63, L64, L96, L97, L99, L100, L112, L122, L128, L200, L255, L256, L1000, L1024, L2000, L3000, L1000000, L1000000007, h54, q3]
        · rw [show (fun j => P j + Q j) = Q by funext j; rw [p1 j, Nat.zero_add]]; exact Or.inr ⟨w, q1, q2, rfl⟩
      · by_cases c : w < j
        · refine ⟨nI w, ?_, ?_⟩
          · show f_X11_leastOf_L5 _ _ _ _ _ = _
            rw [f_X11_leastOf_L5]
            simp (disch := omega) only [md_n, lt_eq, bd_some, gN, gN2, le_T, le_F, lt_T, lt_F, eq_T, eq_F, cN, plus_n, mul_n, rem_n, div_n, sub_n, re_T, re_F, rl_wr, rd_wl, ne_m1, m1_ne, m1_lt, m1_le, m1_ge, m1_gt, m1_refl, ↓reduceIte, L0, L1, L2, L3, L4, L5, L6, L7, L8, L9, L10, L11, L15, L16, L17, L18, L20, L24, L26, L28, L31, L32, L35, L36, L48, L57, L59, L63, L64, L96, L97, L99, L100, L112, L122, L128, L200, L255, L256, L1000, L1024, L2000, L3000, L1000000, L1000000007, h54, q3]
          · rw [show (fun j => P j + Q j) = fun j => Q j + P j by funext j; exact Nat.add_comm _ _]
            exact Or.inr ⟨w, q1, (isL_add_l q2 p2 c).1, rfl⟩
        · refine ⟨nI j, ?_, ?_⟩
          · show f_X11_leastOf_L5 _ _ _ _ _ = _
            rw [f_X11_leastOf_L5]
            simp (disch := omega) only [md_n, lt_eq, bd_some, gN, gN2, le_T, le_F, lt_T, lt_F, eq_T, eq_F, cN, plus_n, mul_n, rem_n, div_n, sub_n, re_T, re_F, rl_wr, rd_wl, ne_m1, m1_ne, m1_lt, m1_le, m1_ge, m1_gt, m1_refl, ↓reduceIte, L0, L1, L2, L3, L4, L5, L6, L7, L8, L9, L10, L11, L15, L16, L17, L18, L20, L24, L26, L28, L31, L32, L35, L36, L48, L57, L59, L63, L64, L96, L97, L99, L100, L112, L122, L128, L200, L255, L256, L1000, L1024, L2000, L3000, L1000000, L1000000007, h54, q3]
          · refine Or.inr ⟨j, p1, ⟨?_, fun k hk => ?_⟩, rfl⟩
            · have := p2.1; show P j + Q j ≠ 0; omega
            · show P k + Q k = 0; rw [p2.2 k hk, q2.2 k (by omega)]
theorem saidL_ok {S b : St} {v k j0 : Nat} {r : Nat → Nat} (hI : I_pcs S) (hk : k ≤ 15) (h54 : rd b 54 0 = nI (nP S)) (hL : laid S v (k + 1) r 0 b) (hj : isL (Tot S v (k + 1) r (k + 1)) j0) (hj0 : j0 ≤ 300 * k + 200) :
    f_X11_said_L78 (fun (x33 : Int64) (S34 : St) => some ((Int64.toInt32 (x33 - x33 / (1000000007 : Int64) * (1000000007 : Int64))), S34)) (nI j0) FU (0 : Int64) (nI 0) b = some (nI (Tot S v (k + 1) r (k + 1) j0 % 1000000007), b) := by
  have h16 := hI.1
  rw [Tot_LB hI (Nat.le_refl _)] at hj ⊢
  have hL' : ∀ C, C < 64 * nP S → rp (rd b 61 C) (rd b 62 C) (LB S v (k + 1) r k C) (300 * k + 200) := fun C hC => by
    have := hL C hC
    rw [show k + 1 - 1 - 0 = k by omega, show 1024 * 0 + C = C by omega] at this
    exact this
  have hz : ∀ i, i < j0 → ∀ C, C < 64 * nP S → LB S v (k + 1) r k C i = 0 := fun i hi C hC => sN_z (hj.2 i hi) C hC
  refine loopC (fun f (z : Int64) C => f_X11_said_L78 _ (nI j0) f z (nI C) b) (fun y => y = some (nI (sN (64 * nP S) (fun c => LB S v (k + 1) r k c j0) % 1000000007), b)) (fun C z => ∃ s, z = lN s ∧ s % 1000000007 = sN C (fun c => LB S v (k + 1) r k c j0) % 1000000007 ∧ s ≤ C * 1000000007) (64 * nP S) ?_ ?_ (64 * nP S) 0 FU _ (by omega) (by unfold FU; omega) ⟨0, rfl, rfl, by omega⟩
  · rintro f z ⟨s, rfl, h2, h3⟩
    show f_X11_said_L78 _ _ _ _ _ _ = _
    rw [f_X11_said_L78, show (1000000007 : Int64) = lN 1000000007 from rfl]
    simp (disch := omega) only [md_n, lt_eq, bd_some, gN, gN2, le_T, le_F, lt_T, lt_F, eq_T, eq_F, cN, plus_n, mul_n, rem_n, div_n, sub_n, re_T, re_F, rl_wr, rd_wl, ne_m1, m1_ne, m1_lt, m1_le, m1_ge, m1_gt, m1_refl, ↓reduceIte, L0, L1, L2, L3, L4, L5, L6, L7, L8, L9, L10, L11, L15, L16, L17, L18, L20, L24, L26, L28, L31, L32, L35, L36, L48, L57, L59, L63, L64, L96, L97, L99, L100, L112, L122, L128, L200, L255, L256, L1000, L1024, L2000, L3000, L1000000, L1000000007, h54]
    rw [pk_lRem (by omega) (by decide) (by decide), h2, lN_i]
  · rintro f z C hC ⟨s, rfl, h2, h3⟩
    right
    show ∃ a', f_X11_said_L78 _ _ _ _ _ _ = _ ∧ ∃ s, _ ∧ s % 1000000007 = (sN C (fun c => LB S v (k + 1) r k c j0) + LB S v (k + 1) r k C j0) % 1000000007 ∧ _
    generalize sN C (fun c => LB S v (k + 1) r k c j0) = T at *
    have hl := hL' C hC
    have hzC : ∀ i, i < j0 → LB S v (k + 1) r k C i = 0 := fun i hi => hz i hi C hC
    generalize LB S v (k + 1) r k C = Q at *
    have hkeep : Q j0 = 0 → rd b 61 C ≠ nI j0 → ∃ a', f_X11_said_L78 (fun (x33 : Int64) (S34 : St) => some ((Int64.toInt32 (x33 - x33 / (1000000007 : Int64) * (1000000007 : Int64))), S34)) (nI j0) (f + 1) (lN s) (nI C) b = f_X11_said_L78 (fun (x33 : Int64) (S34 : St) => some ((Int64.toInt32 (x33 - x33 / (1000000007 : Int64) * (1000000007 : Int64))), S34)) (nI j0) f a' (nI (C + 1)) b ∧ ∃ s, a' = lN s ∧ s % 1000000007 = (T + Q j0) % 1000000007 ∧ s ≤ (C + 1) * 1000000007 := by
      intro hq hne
      refine ⟨lN s, ?_, s, rfl, by rw [hq, Nat.add_zero]; exact h2, Nat.le_trans h3 (Nat.mul_le_mul_right _ (Nat.le_succ C))⟩
      rw [f_X11_said_L78]
      have hne2 : (rd b 61 C = nI j0) = False := eq_false hne
      simp (disch := omega) only [md_n, lt_eq, bd_some, gN, gN2, le_T, le_F, lt_T, lt_F, eq_T, eq_F, cN, plus_n, mul_n, rem_n, div_n, sub_n, re_T, re_F, rl_wr, rd_wl, ne_m1, m1_ne, m1_lt, m1_le, m1_ge, m1_gt, m1_refl, ↓reduceIte, L0, L1, L2, L3, L4, L5, L6, L7, L8, L9, L10, L11, L15, L16, L17, L18, L20, L24, L26, L28, L31, L32, L35, L36, L48, L57, L59, L63, L64, L96, L97, L99, L100, L112, L122, L128, L200, L255, L256, L1000, L1024, L2000, L3000, L1000000, L1000000007, h54, hne2]
      rw [show (0 : Int64) = lN 0 from rfl, lN_add, Nat.add_zero]
    rcases hl with ⟨q1, q2, q3⟩ | ⟨w, q1, q2, q3, q4⟩
    · exact hkeep (q1 j0) (by rw [q2]; exact of_eq_false (eq_F (by omega)))
    · by_cases c : w = j0
      · subst c
        have hm := Nat.mod_lt (Q w) (show 1000000007 > 0 by decide)
        have q4' : Int32.toInt64 (rd b 62 C) = lN (Q w % 1000000007) := by rw [q4, toL (by omega)]
        refine ⟨lN (s + Q w % 1000000007), ?_, s + Q w % 1000000007, rfl, by rw [Nat.add_mod, h2, Nat.mod_mod, ← Nat.add_mod], by omega⟩
        show f_X11_said_L78 _ _ _ _ _ _ = _
        rw [f_X11_said_L78]
        simp (disch := omega) only [md_n, lt_eq, bd_some, gN, gN2, le_T, le_F, lt_T, lt_F, eq_T, eq_F, cN, plus_n, mul_n, rem_n, div_n, sub_n, re_T, re_F, rl_wr, rd_wl, ne_m1, m1_ne, m1_lt, m1_le, m1_ge, m1_gt, m1_refl, ↓reduceIte, L0, L1, L2, L3, L4, L5, L6, L7, L8, L9, L10, L11, L15, L16, L17, L18, L20, L24, L26, L28, L31, L32, L35, L36, L48, L57, L59, L63, L64, L96, L97, L99, L100, L112, L122, L128, L200, L255, L256, L1000, L1024, L2000, L3000, L1000000, L1000000007, h54, q3, q4', lN_add]
      · have : j0 < w := by
          rcases Nat.lt_trichotomy w j0 with d | d | d
          · exact absurd (hzC w d) q2.1
          · exact absurd d c
          · exact d
        exact hkeep (q2.2 j0 this) (by rw [q3]; exact of_eq_false (eq_F (by omega)))
theorem saidL_far {S b : St} {r : Nat → Nat} (hI : I_pcs S) (h54 : rd b 54 0 = nI (nP S)) :
    f_X11_said_L78 (fun (x33 : Int64) (S34 : St) => some ((Int64.toInt32 (x33 - x33 / (1000000007 : Int64) * (1000000007 : Int64))), S34)) (nI 1000000) FU (0 : Int64) (nI 0) b = some (nI 0, b) := by
  have h16 := hI.1
  refine loopC (fun f (z : Int64) C => f_X11_said_L78 _ (nI 1000000) f z (nI C) b) (fun y => y = some (nI 0, b)) (fun C z => z = lN 0) (64 * nP S) ?_ ?_ (64 * nP S) 0 FU _ (by omega) (by unfold FU; omega) rfl
  · rintro f z rfl
    show f_X11_said_L78 _ _ _ _ _ _ = _
    rw [f_X11_said_L78, show (1000000007 : Int64) = lN 1000000007 from rfl]
    simp (disch := omega) only [md_n, lt_eq, bd_some, gN, gN2, le_T, le_F, lt_T, lt_F, eq_T, eq_F, cN, plus_n, mul_n, rem_n, div_n, sub_n, re_T, re_F, rl_wr, rd_wl, ne_m1, m1_ne, m1_lt, m1_le, m1_ge, m1_gt, m1_refl, ↓reduceIte, L0, L1, L2, L3, L4, L5, L6, L7, L8, L9, L10, L11, L15, L16, L17, L18, L20, L24, L26, L28, L31, L32, L35, L36, L48, L57, L59, L63, L64, L96, L97, L99, L100, L112, L122, L128, L200, L255, L256, L1000, L1024, L2000, L3000, L1000000, L1000000007, h54]
    rw [pk_lRem (by decide) (by decide) (by decide), Nat.zero_mod, lN_i]
  · rintro f z C hC rfl
    right
    refine ⟨lN 0, ?_, rfl⟩
    show f_X11_said_L78 _ _ _ _ _ _ = _
    rw [f_X11_said_L78]
    simp (disch := omega) only [md_n, lt_eq, bd_some, gN, gN2, le_T, le_F, lt_T, lt_F, eq_T, eq_F, cN, plus_n, mul_n, rem_n, div_n, sub_n, re_T, re_F, rl_wr, rd_wl, ne_m1, m1_ne, m1_lt, m1_le, m1_ge, m1_gt, m1_refl, ↓reduceIte, L0, L1, L2, L3, L4, L5, L6, L7, L8, L9, L10, L11, L15, L16, L17, L18, L20, L24, L26, L28, L31, L32, L35, L36, L48, L57, L59, L63, L64, L96, L97, L99, L100, L112, L122, L128, L200, L255, L256, L1000, L1024, L2000, L3000, L1000000, L1000000007, h54]
    rfl
