/-! ===== tokens: the model ===== -/
def wc (B : Nat → Nat) (b : Nat) : Nat → Nat
  | 0 => 0
  | k + 1 => 27 * wc B b k + (B (b + k) - 96)
def nval (B : Nat → Nat) (b : Nat) : Nat → Nat
  | 0 => 0
  | k + 1 => 10 * nval B b k + (B (b + k) - 48)
def tokV (B : Nat → Nat) (N e : Nat) : Int64 := if tK B N e = 0 then -2 else if tK B N e = 3 then (if B (tB B N e) = 59 then -3 else if B (tB B N e) = 35 then -5 else -4) else if tK B N e = 2 then (if tE B N e - tB B N e ≤ 2 then -1 else -4) else (if tE B N e - tB B N e ≤ 9 then lN (wc B (tB B N e) (tE B N e - tB B N e)) else -4)
def ldM (B : Nat → Nat) (N p : Nat) (a : St) : Prop := rd a 54 15 = nI (tB B N p) ∧ rd a 54 14 = nI (tE B N p) ∧ rl a 54 16 = tokV B N p ∧ (tK B N p = 2 → tE B N p - tB B N p ≤ 2 → rd a 54 18 = nI (nval B (tB B N p) (tE B N p - tB B N p)))
def Xu (c j : Nat) : Prop := (c = 54 ∧ 14 ≤ j ∧ j ≤ 20) ∨ c = 66
def Xn (c j : Nat) : Prop := c = 54 ∧ 14 ≤ j ∧ j ≤ 18
theorem rl_eq {S : St} {k j : Nat} {v : Int64} : rl (wl S k j v) k j = v := by rw [rl_wl, if_pos ⟨rfl, rfl⟩]
theorem in_T {v a b : Nat} (S : St) (h : a ≤ v ∧ v ≤ b ∧ b < 2147483648) : f_X11_in (nI v) (nI a) (nI b) S = some (nI 1, S) := by
  unfold f_X11_in; simp (disch := omega) only [md_n, lt_eq, bd_some, gN, gN2, le_T, le_F, lt_T, lt_F, eq_T, eq_F, cN, plus_n, mul_n, rem_n, div_n, sub_n, re_T, re_F, rl_wr, rd_wl, ne_m1, m1_ne, m1_lt, m1_le, m1_ge, m1_gt, m1_refl, ↓reduceIte, L0, L1, L2, L3, L4, L5, L6, L7, L8, L9, L10, L11, L15, L16, L17, L18, L20, L24, L26, L28, L31, L32, L35, L36, L48, L57, L59, L63, L64, L96, L97, L99, L100, L112, L122, L128, L200, L255, L256, L1000, L1024, L2000, L3000, L1000000, L1000000007]
theorem in_F {v a b : Nat} (S : St) (h : v < 2147483648 ∧ a < 2147483648 ∧ b < 2147483648 ∧ ¬ (a ≤ v ∧ v ≤ b)) : f_X11_in (nI v) (nI a) (nI b) S = some (nI 0, S) := by
  unfold f_X11_in
  by_cases c : v < a
  · simp (disch := omega) only [md_n, lt_eq, bd_some, gN, gN2, le_T, le_F, lt_T, lt_F, eq_T, eq_F, cN, plus_n, mul_n, rem_n, div_n, sub_n, re_T, re_F, rl_wr, rd_wl, ne_m1, m1_ne, m1_lt, m1_le, m1_ge, m1_gt, m1_refl, ↓reduceIte, L0, L1, L2, L3, L4, L5, L6, L7, L8, L9, L10, L11, L15, L16, L17, L18, L20, L24, L26, L28, L31, L32, L35, L36, L48, L57, L59, L63, L64, L96, L97, L99, L100, L112, L122, L128, L200, L255, L256, L1000, L1024, L2000, L3000, L1000000, L1000000007]
  · simp (disch := omega) only [md_n, lt_eq, bd_some, gN, gN2, le_T, le_F, lt_T, lt_F, eq_T, eq_F, cN, plus_n, mul_n, rem_n, div_n, sub_n, re_T, re_F, rl_wr, rd_wl, ne_m1, m1_ne, m1_lt, m1_le, m1_ge, m1_gt, m1_refl, ↓reduceIte, L0, L1, L2, L3, L4, L5, L6, L7, L8, L9, L10, L11, L15, L16, L17, L18, L20, L24, L26, L28, L31, L32, L35, L36, L48, L57, L59, L63, L64, L96, L97, L99, L100, L112, L122, L128, L200, L255, L256, L1000, L1024, L2000, L3000, L1000000, L1000000007]
/-- the text, as the model holds it -/
def TxtM (S : St) (B : Nat → Nat) (N : Nat) : Prop := N ≤ 200 ∧ True ∧ rd S 54 12 = nI N ∧ ∀ i, i < N → B i < 256 ∧ True ∧ rd S 65 i = nI (B i)
theorem TxtM.of {S a : St} {B : Nat → Nat} {N : Nat} (h : Txt S B N) (h2 : rd a 54 12 = rd S 54 12) (h4 : ∀ j, rd a 65 j = rd S 65 j) : TxtM a B N :=
  ⟨h.1, trivial, by rw [h2]; exact h.2.2.1, fun i hi => ⟨(h.2.2.2 i hi).1, trivial, by rw [h4]; exact (h.2.2.2 i hi).2.2⟩⟩
theorem lettersM {S b0 : St} {B : Nat → Nat} {N e : Nat} (hT : TxtM S B N) (he : e ≤ N) (hk : tK B N e = 1) (hf : fr Xn S b0) (h14 : rd b0 54 14 = nI (tB B N e)) (h15 : rd b0 54 15 = nI (tB B N e)) (h16 : rl b0 54 16 = lN 0) (K : St → Option (Unit × St)) :
    ∃ a', f_X11_nextToken_L101 K FU b0 = K a' ∧ rd a' 54 14 = nI (tE B N e) ∧ rd a' 54 15 = nI (tB B N e) ∧ (tE B N e - tB B N e ≤ 9 → rl a' 54 16 = lN (wc B (tB B N e) (tE B N e - tB B N e))) ∧ fr Xn S a' := by
  obtain ⟨t1, -, t2, t4⟩ := hT
  obtain ⟨y1, y2, y3, y4, y5, y6, y7, y8, y9, y10⟩ := tok_facts B he
  obtain ⟨y11, y12⟩ := y10 (Or.inl hk)
  have cNe : tB B N e ≠ N := fun z => by have := y5.mpr z; omega
  have hE : tE B N e = rnE B 1 (N - tB B N e) (tB B N e) := by
    have h1 : tE B N e = rnE B (tK B N e) (N - (tB B N e + 1)) (tB B N e + 1) := by
      show (if tB B N e = N then N else _) = _
      rw [if_neg cNe, if_neg (by omega)]
    rw [h1, hk, show N - tB B N e = (N - (tB B N e + 1)) + 1 by omega, rnE, if_pos (by rw [y12 _ (Nat.le_refl _) y11, hk])]
  refine loopC (fun f (b : St) _ => f_X11_nextToken_L101 K f b) (fun x => ∃ a', x = K a' ∧ rd a' 54 14 = nI (tE B N e) ∧ rd a' 54 15 = nI (tB B N e) ∧ (tE B N e - tB B N e ≤ 9 → rl a' 54 16 = lN (wc B (tB B N e) (tE B N e - tB B N e))) ∧ fr Xn S a')
    (fun i b => tB B N e ≤ i ∧ rd b 54 14 = nI i ∧ rd b 54 15 = nI (tB B N e) ∧ (i - tB B N e ≤ 9 → rl b 54 16 = lN (wc B (tB B N e) (i - tB B N e))) ∧ rnE B 1 (N - i) i = tE B N e ∧ fr Xn S b) N ?_ ?_ (N - tB B N e) (tB B N e) FU b0 (by omega) (by unfold FU; omega) ⟨Nat.le_refl _, h14, h15, fun _ => by rw [Nat.sub_self]; exact h16, hE.symm, hf⟩
  · intro f b ⟨w0, w1, w2, w3, w4, w5⟩
    have e1 : rd b 54 12 = nI N := by rw [w5 _ _ (by unfold Xn; omega)]; exact t2
    rw [Nat.sub_self, rnE] at w4
    refine ⟨b, ?_, by rw [← w4]; exact w1, w2, fun z => by rw [← w4]; exact w3 (by omega), w5⟩
    show f_X11_nextToken_L101 _ (f + 1) b = _
    rw [f_X11_nextToken_L101]
    simp (disch := omega) only [md_n, lt_eq, bd_some, gN, gN2, le_T, le_F, lt_T, lt_F, eq_T, eq_F, cN, plus_n, mul_n, rem_n, div_n, sub_n, re_T, re_F, rl_wr, rd_wl, ne_m1, m1_ne, m1_lt, m1_le, m1_ge, m1_gt, m1_refl, ↓reduceIte, L0, L1, L2, L3, L4, L5, L6, L7, L8, L9, L10, L11, L15, L16, L17, L18, L20, L24, L26, L28, L31, L32, L35, L36, L48, L57, L59, L63, L64, L96, L97, L99, L100, L112, L122, L128, L200, L255, L256, L1000, L1024, L2000, L3000, L1000000, L1000000007, e1, w1]
  · intro f b i hi ⟨w0, w1, w2, w3, w4, w5⟩
    have e1 : rd b 54 12 = nI N := by rw [w5 _ _ (by unfold Xn; omega)]; exact t2
    have e3 : rd b 65 i = nI (B i) := by rw [w5 _ _ (by unfold Xn; omega)]; exact (t4 i hi).2.2
    have hb := (t4 i hi).1
    have hkc := kd_cases (B i)
    rw [show N - i = (N - (i + 1)) + 1 by omega, rnE] at w4
    by_cases d : kd (B i) = 1
    · right
      rw [if_pos d] at w4
      have hin := in_T (v := B i) (a := 97) (b := 122) b (by omega)
      by_cases d9 : 9 ≤ i - tB B N e
      · refine ⟨wr (wl b 54 16 (-4)) 54 14 (nI (i + 1)), ?_, by omega, rw_eq, by rw [rw_ne (by omega), rd_wl]; exact w2, fun z => by omega, w4, (w5.wl).wr (by unfold Xn; omega)⟩
        show f_X11_nextToken_L101 _ (f + 1) b = f_X11_nextToken_L101 _ f _
        rw [f_X11_nextToken_L101]
        simp (disch := omega) only [md_n, lt_eq, bd_some, gN, gN2, le_T, le_F, lt_T, lt_F, eq_T, eq_F, cN, plus_n, mul_n, rem_n, div_n, sub_n, re_T, re_F, rl_wr, rd_wl, ne_m1, m1_ne, m1_lt, m1_le, m1_ge, m1_gt, m1_refl, ↓reduceIte, L0, L1, L2, L3, L4, L5, L6, L7, L8, L9, L10, L11, L15, L16, L17, L18, L20, L24, L26, L28, L31, L32, L35, L36, L48, L57, L59, L63, L64, L96, L97, L99, L100, L112, L122, L128, L200, L255, L256, L1000, L1024, L2000, L3000, L1000000, L1000000007, e1, w1, w2, e3, hin]
      · refine ⟨wr (wl b 54 16 (lN (wc B (tB B N e) (i - tB B N e + 1)))) 54 14 (nI (i + 1)), ?_, by omega, rw_eq, by rw [rw_ne (by omega), rd_wl]; exact w2, fun z => by rw [rl_wr, rl_eq, show i + 1 - tB B N e = i - tB B N e + 1 by omega], w4, (w5.wl).wr (by unfold Xn; omega)⟩
        have w3' := w3 (by omega)
        have hwc : wc B (tB B N e) (i - tB B N e + 1) = 27 * wc B (tB B N e) (i - tB B N e) + B i - 96 := by
          rw [wc, show tB B N e + (i - tB B N e) = i by omega]; omega
        have hval : ((27 : Int64) * (rl b 54 16) + Int32.toInt64 (nI (B i))) - (96 : Int64) = lN (wc B (tB B N e) (i - tB B N e + 1)) := by
          rw [w3', show (27 : Int64) = lN 27 from rfl, show (96 : Int64) = lN 96 from rfl, lN_mul, toL (by omega), lN_add, lN_sub (by omega), hwc]
        show f_X11_nextToken_L101 _ (f + 1) b = f_X11_nextToken_L101 _ f _
        rw [f_X11_nextToken_L101]
        simp (disch := omega) only [md_n, lt_eq, bd_some, gN, gN2, le_T, le_F, lt_T, lt_F, eq_T, eq_F, cN, plus_n, mul_n, rem_n, div_n, sub_n, re_T, re_F, rl_wr, rd_wl, ne_m1, m1_ne, m1_lt, m1_le, m1_ge, m1_gt, m1_refl, ↓reduceIte, L0, L1, L2, L3, L4, L5, L6, L7, L8, L9, L10, L11, L15, L16, L17, L18, L20, L24, L26, L28, L31, L32, L35, L36, L48, L57, L59, L63, L64, L96, L97, L99, L100, L112, L122, L128, L200, L255, L256, L1000, L1024, L2000, L3000, L1000000, L1000000007, e1, w1, w2, e3, hin, hval]
    · left
      rw [if_neg d] at w4
      have hin := in_F (v := B i) (a := 97) (b := 122) b (by omega)
      refine ⟨b, ?_, by rw [← w4]; exact w1, w2, fun z => by rw [← w4]; exact w3 (by omega), w5⟩
      show f_X11_nextToken_L101 _ (f + 1) b = _
      rw [f_X11_nextToken_L101]
      simp (disch := omega) only [md_n, lt_eq, bd_some, gN, gN2, le_T, le_F, lt_T, lt_F, eq_T, eq_F, cN, plus_n, mul_n, rem_n, div_n, sub_n, re_T, re_F, rl_wr, rd_wl, ne_m1, m1_ne, m1_lt, m1_le, m1_ge, m1_gt, m1_refl, ↓reduceIte, L0, L1, L2, L3, L4, L5, L6, L7, L8, L9, L10, L11, L15, L16, L17, L18, L20, L24, L26, L28, L31, L32, L35, L36, L48, L57, L59, L63, L64, L96, L97, L99, L100, L112, L122, L128, L200, L255, L256, L1000, L1024, L2000, L3000, L1000000, L1000000007, e1, w1, e3, hin]
theorem nval2 {B : Nat → Nat} {b k : Nat} (hk : k ≤ 2) (h : ∀ i, i < k → 48 ≤ B (b + i) ∧ B (b + i) ≤ 57) : nval B b k ≤ 99 := by
  have : k = 0 ∨ k = 1 ∨ k = 2 := by omega
  rcases this with rfl | rfl | rfl
  · rw [nval]; omega
  · have := h 0 (by omega); rw [nval, nval]; omega
  · have := h 0 (by omega); have := h 1 (by omega); rw [nval, nval, nval]; omega
theorem digitsM {S b0 : St} {B : Nat → Nat} {N e : Nat} (hT : TxtM S B N) (he : e ≤ N) (hk : tK B N e = 2) (hf : fr Xn S b0) (h14 : rd b0 54 14 = nI (tB B N e)) (h15 : rd b0 54 15 = nI (tB B N e)) (h17 : rd b0 54 17 = nI 0) (h18 : rd b0 54 18 = nI 0) (K : St → Option (Unit × St)) :
    ∃ a', f_X11_nextToken_L241 K FU b0 = K a' ∧ rd a' 54 14 = nI (tE B N e) ∧ rd a' 54 15 = nI (tB B N e) ∧ rd a' 54 17 = nI (tE B N e - tB B N e) ∧ (tE B N e - tB B N e ≤ 2 → rd a' 54 18 = nI (nval B (tB B N e) (tE B N e - tB B N e))) ∧ fr Xn S a' := by
  obtain ⟨t1, -, t2, t4⟩ := hT
  obtain ⟨y1, y2, y3, y4, y5, y6, y7, y8, y9, y10⟩ := tok_facts B he
  obtain ⟨y11, y12⟩ := y10 (Or.inr hk)
  have cNe : tB B N e ≠ N := fun z => by have := y5.mpr z; omega
  have hE : tE B N e = rnE B 2 (N - tB B N e) (tB B N e) := by
    have h1 : tE B N e = rnE B (tK B N e) (N - (tB B N e + 1)) (tB B N e + 1) := by
      show (if tB B N e = N then N else _) = _
      rw [if_neg cNe, if_neg (by omega)]
    rw [h1, hk, show N - tB B N e = (N - (tB B N e + 1)) + 1 by omega, rnE, if_pos (by rw [y12 _ (Nat.le_refl _) y11, hk])]
  refine loopC (fun f (b : St) _ => f_X11_nextToken_L241 K f b) (fun x => ∃ a', x = K a' ∧ rd a' 54 14 = nI (tE B N e) ∧ rd a' 54 15 = nI (tB B N e) ∧ rd a' 54 17 = nI (tE B N e - tB B N e) ∧ (tE B N e - tB B N e ≤ 2 → rd a' 54 18 = nI (nval B (tB B N e) (tE B N e - tB B N e))) ∧ fr Xn S a')
    (fun i b => tB B N e ≤ i ∧ rd b 54 14 = nI i ∧ rd b 54 15 = nI (tB B N e) ∧ rd b 54 17 = nI (i - tB B N e) ∧ (i - tB B N e ≤ 2 → rd b 54 18 = nI (nval B (tB B N e) (i - tB B N e)) ∧ nval B (tB B N e) (i - tB B N e) ≤ 99) ∧ rnE B 2 (N - i) i = tE B N e ∧ fr Xn S b) N ?_ ?_ (N - tB B N e) (tB B N e) FU b0 (by omega) (by unfold FU; omega) ⟨Nat.le_refl _, h14, h15, by rw [Nat.sub_self]; exact h17, fun _ => by rw [Nat.sub_self]; exact ⟨h18, by rw [nval]; omega⟩, hE.symm, hf⟩
  · intro f b ⟨w0, w1, w2, w3, w3', w4, w5⟩
    have e1 : rd b 54 12 = nI N := by rw [w5 _ _ (by unfold Xn; omega)]; exact t2
    rw [Nat.sub_self, rnE] at w4
    refine ⟨b, ?_, by rw [← w4]; exact w1, w2, by rw [← w4]; exact w3, fun z => by rw [← w4]; exact (w3' (by omega)).1, w5⟩
    show f_X11_nextToken_L241 _ (f + 1) b = _
    rw [f_X11_nextToken_L241]
    simp (disch := omega) only [md_n, lt_eq, bd_some, gN, gN2, le_T, le_F, lt_T, lt_F, eq_T, eq_F, cN, plus_n, mul_n, rem_n, div_n, sub_n, re_T, re_F, rl_wr, rd_wl, ne_m1, m1_ne, m1_lt, m1_le, m1_ge, m1_gt, m1_refl, ↓reduceIte, L0, L1, L2, L3, L4, L5, L6, L7, L8, L9, L10, L11, L15, L16, L17, L18, L20, L24, L26, L28, L31, L32, L35, L36, L48, L57, L59, L63, L64, L96, L97, L99, L100, L112, L122, L128, L200, L255, L256, L1000, L1024, L2000, L3000, L1000000, L1000000007, e1, w1]
  · intro f b i hi ⟨w0, w1, w2, w3, w3', w4, w5⟩
    have e1 : rd b 54 12 = nI N := by rw [w5 _ _ (by unfold Xn; omega)]; exact t2
    have e3 : rd b 65 i = nI (B i) := by rw [w5 _ _ (by unfold Xn; omega)]; exact (t4 i hi).2.2
    have hb := (t4 i hi).1
    have hkc := kd_cases (B i)
    rw [show N - i = (N - (i + 1)) + 1 by omega, rnE] at w4
    by_cases d : kd (B i) = 2
    · right
      rw [if_pos d] at w4
      have hin := in_T (v := B i) (a := 48) (b := 57) b (by omega)
      by_cases d2 : 2 ≤ i - tB B N e
      · refine ⟨wr (wr (wr b 54 18 (rd b 54 18)) 54 17 (nI (i - tB B N e + 1))) 54 14 (nI (i + 1)), ?_, by omega, rw_eq, by rw [rw_ne (by omega), rw_ne (by omega), rw_ne (by omega)]; exact w2, by rw [rw_ne (by omega), rw_eq, show i + 1 - tB B N e = i - tB B N e + 1 by omega], fun z => by omega, w4, ((w5.wr (by unfold Xn; omega)).wr (by unfold Xn; omega)).wr (by unfold Xn; omega)⟩
        show f_X11_nextToken_L241 _ (f + 1) b = f_X11_nextToken_L241 _ f _
        rw [f_X11_nextToken_L241]
        simp (disch := omega) only [md_n, lt_eq, bd_some, gN, gN2, le_T, le_F, lt_T, lt_F, eq_T, eq_F, cN, plus_n, mul_n, rem_n, div_n, sub_n, re_T, re_F, rl_wr, rd_wl, ne_m1, m1_ne, m1_lt, m1_le, m1_ge, m1_gt, m1_refl, ↓reduceIte, L0, L1, L2, L3, L4, L5, L6, L7, L8, L9, L10, L11, L15, L16, L17, L18, L20, L24, L26, L28, L31, L32, L35, L36, L48, L57, L59, L63, L64, L96, L97, L99, L100, L112, L122, L128, L200, L255, L256, L1000, L1024, L2000, L3000, L1000000, L1000000007, e1, w1, w3, e3, hin]
      · obtain ⟨w6, w7⟩ := w3' (by omega)
        have hnv : nval B (tB B N e) (i - tB B N e + 1) = 10 * nval B (tB B N e) (i - tB B N e) + B i - 48 := by
          rw [nval, show tB B N e + (i - tB B N e) = i by omega]; omega
        have hle : nval B (tB B N e) (i - tB B N e + 1) ≤ 99 := by
          apply nval2 (by omega)
          intro x hx
          by_cases y : x = i - tB B N e
          · rw [y, show tB B N e + (i - tB B N e) = i by omega]; omega
          · have h8 := y12 (tB B N e + x) (by omega) (by
              have := (rnE_le B 2 (N - (i + 1)) (i + 1)).1
              omega)
            rw [hk] at h8
            have := kd_cases (B (tB B N e + x))
            omega
        refine ⟨wr (wr (wr b 54 18 (nI (nval B (tB B N e) (i - tB B N e + 1)))) 54 17 (nI (i - tB B N e + 1))) 54 14 (nI (i + 1)), ?_, by omega, rw_eq, by rw [rw_ne (by omega), rw_ne (by omega), rw_ne (by omega)]; exact w2, by rw [rw_ne (by omega), rw_eq, show i + 1 - tB B N e = i - tB B N e + 1 by omega], fun z => by rw [rw_ne (by omega), rw_ne (by omega), rw_eq, show i + 1 - tB B N e = i - tB B N e + 1 by omega]; exact ⟨rfl, hle⟩, w4, ((w5.wr (by unfold Xn; omega)).wr (by unfold Xn; omega)).wr (by unfold Xn; omega)⟩
        show f_X11_nextToken_L241 _ (f + 1) b = f_X11_nextToken_L241 _ f _
        rw [f_X11_nextToken_L241, hnv]
        simp (disch := omega) only [md_n, lt_eq, bd_some, gN, gN2, le_T, le_F, lt_T, lt_F, eq_T, eq_F, cN, plus_n, mul_n, rem_n, div_n, sub_n, re_T, re_F, rl_wr, rd_wl, ne_m1, m1_ne, m1_lt, m1_le, m1_ge, m1_gt, m1_refl, ↓reduceIte, L0, L1, L2, L3, L4, L5, L6, L7, L8, L9, L10, L11, L15, L16, L17, L18, L20, L24, L26, L28, L31, L32, L35, L36, L48, L57, L59, L63, L64, L96, L97, L99, L100, L112, L122, L128, L200, L255, L256, L1000, L1024, L2000, L3000, L1000000, L1000000007, e1, w1, w3, w6, e3, hin]
    · left
      rw [if_neg d] at w4
      have hin := in_F (v := B i) (a := 48) (b := 57) b (by omega)
      refine ⟨b, ?_, by rw [← w4]; exact w1, w2, by rw [← w4]; exact w3, fun z => by rw [← w4]; exact (w3' (by omega)).1, w5⟩
      show f_X11_nextToken_L241 _ (f + 1) b = _
      rw [f_X11_nextToken_L241]
      simp (disch := omega) only [md_n, lt_eq, bd_some, gN, gN2, le_T, le_F, lt_T, lt_F, eq_T, eq_F, cN, plus_n, mul_n, rem_n, div_n, sub_n, re_T, re_F, rl_wr, rd_wl, ne_m1, m1_ne, m1_lt, m1_le, m1_ge, m1_gt, m1_refl, ↓reduceIte, L0, L1, L2, L3, L4, L5, L6, L7, L8, L9, L10, L11, L15, L16, L17, L18, L20, L24, L26, L28, L31, L32, L35, L36, L48, L57, L59, L63, L64, L96, L97, L99, L100, L112, L122, L128, L200, L255, L256, L1000, L1024, L2000, L3000, L1000000, L1000000007, e1, w1, e3, hin]
