/-! ===== count ===== -/
def cntP (f : Nat → Nat) : Nat → Nat
  | 0 => 0
  | k + 1 => cntP f k + if f k = 0 then 0 else 1
theorem cntP_le (f : Nat → Nat) (k : Nat) : cntP f k ≤ k := by
  induction k with
  | zero => exact Nat.le_refl _
  | succ k ih => rw [cntP]; split <;> omega
theorem howMany_ok {S : St} {c N : Nat} {f : Nat → Nat} (hN : alen c = N) (hN2 : N ≤ 100) (h : ∀ i, i < N → rd S c i = nI (f i) ∧ f i ≤ 100) : f_X10_howManyTold c S = some (nI (cntP f N), S) := by
  unfold f_X10_howManyTold
  refine loopC (fun g (x : Nat) i => f_X10_howManyTold_L4 (fun x11 S12 => some (x11, S12)) c g (nI x) (nI i) S) (fun y => y = some (nI (cntP f N), S)) (fun i x => x = cntP f i) N ?_ ?_ N 0 FU 0 (by omega) (by unfold FU; omega) rfl
  · rintro g x rfl
    show f_X10_howManyTold_L4 _ _ _ _ _ _ = _
    rw [f_X10_howManyTold_L4, hN]
    simp (disch := omega) only [md_n, lt_eq, bd_some, gN, gN2, le_T, le_F, lt_T, lt_F, eq_T, eq_F, cN, plus_n, mul_n, rem_n, div_n, sub_n, re_T, re_F, rl_wr, rd_wl, ne_m1, m1_ne, m1_lt, m1_le, m1_ge, m1_gt, m1_refl, ↓reduceIte, L0, L1, L2, L3, L4, L5, L6, L7, L8, L9, L10, L11, L15, L16, L17, L18, L20, L24, L26, L28, L31, L32, L35, L36, L48, L57, L59, L63, L64, L96, L97, L99, L100, L112, L122, L128, L200, L255, L256, L1000, L1024, L2000, L3000, L1000000, L1000000007]
  · rintro g x i hi rfl
    right
    obtain ⟨h1, h2⟩ := h i hi
    have hle := cntP_le f i
    refine ⟨cntP f (i + 1), ?_, rfl⟩
    show f_X10_howManyTold_L4 _ _ _ _ _ _ = f_X10_howManyTold_L4 _ _ _ (nI (cntP f i + if f i = 0 then 0 else 1)) _ _
    rw [f_X10_howManyTold_L4, hN]
    by_cases d : f i = 0
    · rw [if_pos d]; simp (disch := omega) only [md_n, lt_eq, bd_some, gN, gN2, le_T, le_F, lt_T, lt_F, eq_T, eq_F, cN, plus_n, mul_n, rem_n, div_n, sub_n, re_T, re_F, rl_wr, rd_wl, ne_m1, m1_ne, m1_lt, m1_le, m1_ge, m1_gt, m1_refl, ↓reduceIte, L0, L1, L2, L3, L4, L5, L6, L7, L8, L9, L10, L11, L15, L16, L17, L18, L20, L24, L26, L28, L31, L32, L35, L36, L48, L57, L59, L63, L64, L96, L97, L99, L100, L112, L122, L128, L200, L255, L256, L1000, L1024, L2000, L3000, L1000000, L1000000007, h1, Nat.add_zero]
    · rw [if_neg d]; simp (disch := omega) only [md_n, lt_eq, bd_some, gN, gN2, le_T, le_F, lt_T, lt_F, eq_T, eq_F, cN, plus_n, mul_n, rem_n, div_n, sub_n, re_T, re_F, rl_wr, rd_wl, ne_m1, m1_ne, m1_lt, m1_le, m1_ge, m1_gt, m1_refl, ↓reduceIte, L0, L1, L2, L3, L4, L5, L6, L7, L8, L9, L10, L11, L15, L16, L17, L18, L20, L24, L26, L28, L31, L32, L35, L36, L48, L57, L59, L63, L64, L96, L97, L99, L100, L112, L122, L128, L200, L255, L256, L1000, L1024, L2000, L3000, L1000000, L1000000007, h1]
theorem positive_ok {S : St} {c N : Nat} {f : Nat → Nat} (hN : alen c = N) (hN2 : N ≤ 100) (h : ∀ i, i < N → rd S c i = nI (f i) ∧ f i ≤ 100) : f_X11_positive c S = some (nI (cntP f N), S) := by
  unfold f_X11_positive
  refine loopC (fun g (x : Nat) i => f_X11_positive_L4 (fun x11 S12 => some (x11, S12)) c g (nI x) (nI i) S) (fun y => y = some (nI (cntP f N), S)) (fun i x => x = cntP f i) N ?_ ?_ N 0 FU 0 (by omega) (by unfold FU; omega) rfl
  · rintro g x rfl
    show f_X11_positive_L4 _ _ _ _ _ _ = _
    rw [f_X11_positive_L4, hN]
    simp (disch := omega) only [md_n, lt_eq, bd_some, gN, gN2, le_T, le_F, lt_T, lt_F, eq_T, eq_F, cN, plus_n, mul_n, rem_n, div_n, sub_n, re_T, re_F, rl_wr, rd_wl, ne_m1, m1_ne, m1_lt, m1_le, m1_ge, m1_gt, m1_refl, ↓reduceIte, L0, L1, L2, L3, L4, L5, L6, L7, L8, L9, L10, L11, L15, L16, L17, L18, L20, L24, L26, L28, L31, L32, L35, L36, L48, L57, L59, L63, L64, L96, L97, L99, L100, L112, L122, L128, L200, L255, L256, L1000, L1024, L2000, L3000, L1000000, L1000000007]
  · rintro g x i hi rfl
    right
    obtain ⟨h1, h2⟩ := h i hi
    have hle := cntP_le f i
    refine ⟨cntP f (i + 1), ?_, rfl⟩
    show f_X11_positive_L4 _ _ _ _ _ _ = f_X11_positive_L4 _ _ _ (nI (cntP f i + if f i = 0 then 0 else 1)) _ _
    rw [f_X11_positive_L4, hN]
    by_cases d : f i = 0
    · rw [if_pos d]; simp (disch := omega) only [md_n, lt_eq, bd_some, gN, gN2, le_T, le_F, lt_T, lt_F, eq_T, eq_F, cN, plus_n, mul_n, rem_n, div_n, sub_n, re_T, re_F, rl_wr, rd_wl, ne_m1, m1_ne, m1_lt, m1_le, m1_ge, m1_gt, m1_refl, ↓reduceIte, L0, L1, L2, L3, L4, L5, L6, L7, L8, L9, L10, L11, L15, L16, L17, L18, L20, L24, L26, L28, L31, L32, L35, L36, L48, L57, L59, L63, L64, L96, L97, L99, L100, L112, L122, L128, L200, L255, L256, L1000, L1024, L2000, L3000, L1000000, L1000000007, h1, Nat.add_zero]
    · rw [if_neg d]; simp (disch := omega) only [md_n, lt_eq, bd_some, gN, gN2, le_T, le_F, lt_T, lt_F, eq_T, eq_F, cN, plus_n, mul_n, rem_n, div_n, sub_n, re_T, re_F, rl_wr, rd_wl, ne_m1, m1_ne, m1_lt, m1_le, m1_ge, m1_gt, m1_refl, ↓reduceIte, L0, L1, L2, L3, L4, L5, L6, L7, L8, L9, L10, L11, L15, L16, L17, L18, L20, L24, L26, L28, L31, L32, L35, L36, L48, L57, L59, L63, L64, L96, L97, L99, L100, L112, L122, L128, L200, L255, L256, L1000, L1024, L2000, L3000, L1000000, L1000000007, h1]
theorem count_all (v1 : Int32) {S : St} (hP : I_pcs S) (hB : I_byt S) (hX : I_lex S) (hc : I_cut S) (hS : I_sta S) : ∃ r, f_X10_count v1 S = some (r, S) ∧ f_X11_count v1 S = some (r, S) := by
  obtain ⟨-, n, T, A, -, -, -, -, hR, hM⟩ := hS
  obtain ⟨m, -, b1, b2, -⟩ := hB
  have w1 := howMany_ok (S := S) (c := 16) (N := 32) (f := fun i => nv S 16 i) rfl (by decide) (fun i hi => ⟨(hX.1 i hi).1, by have := (hX.1 i hi).2.1; omega⟩)
  have w2 := positive_ok (S := S) (c := 67) (N := 32) (f := fun i => nv S 16 i) rfl (by decide) (fun i hi => ⟨(hX.1 i hi).2.2.1, by have := (hX.1 i hi).2.1; omega⟩)
  have l1 := howMany_ok (S := S) (c := 18) (N := 8) (f := fun i => nv S 18 i) rfl (by decide) (fun i hi => ⟨(hX.2 i hi).1, by have := (hX.2 i hi).2.1; omega⟩)
  have l2 := positive_ok (S := S) (c := 69) (N := 8) (f := fun i => nv S 18 i) rfl (by decide) (fun i hi => ⟨(hX.2 i hi).2.2.1, by have := (hX.2 i hi).2.1; omega⟩)
  unfold f_X10_count f_X11_count
  rw [hP.2.1, hP.2.2.1, b1, b2, w1, w2, l1, l2, hc.1, hc.2.1, hR.1, hR.2.1, hM.1, hM.2.1]
  simp only [bd_some]
  by_cases d0 : v1 = 0
  · rw [if_pos d0]; exact ⟨_, rfl, rfl⟩
  rw [if_neg d0]
  by_cases d1 : v1 = 1
  · rw [if_pos d1]; exact ⟨_, rfl, rfl⟩
  rw [if_neg d1]
  by_cases d2 : v1 = 2
  · rw [if_pos d2]; exact ⟨_, rfl, rfl⟩
  rw [if_neg d2]
  by_cases d3 : v1 = 3
  · rw [if_pos d3]; exact ⟨_, rfl, rfl⟩
  rw [if_neg d3]
  by_cases d4 : v1 = 4
  · rw [if_pos d4]; exact ⟨_, rfl, rfl⟩
  rw [if_neg d4]
  by_cases d5 : v1 = 5
  · rw [if_pos d5]; exact ⟨_, rfl, rfl⟩
  rw [if_neg d5]
  by_cases d6 : v1 = 6
  · rw [if_pos d6]; exact ⟨_, rfl, rfl⟩
  rw [if_neg d6]; exact ⟨_, rfl, rfl⟩
