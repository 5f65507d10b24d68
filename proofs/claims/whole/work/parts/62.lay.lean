/-! ===== the model lays a row out: one bit ===== -/
def Xm (c j : Nat) : Prop := 61 ≤ c ∧ c ≤ 64
theorem Xm_pc {S b : St} (h : fr Xm S b) : sameP S b := fun c j hc => h c j (by unfold pcA pcD at hc; unfold Xm; omega)
theorem pm_p {S b : St} (hI : I_pcs S) (h : sameP S b) {p : Nat} (hp : p < nP S) :
    rd b 54 0 = nI (nP S) ∧ rd b 56 p = nI (pl S p) ∧ rd b 59 p = nI (pv S p) ∧ (∀ j, j < pl S p → rd b 55 (8 * p + j) = nI (px S p / 16 ^ j % 16)) ∧ (∀ j, j < 32 → f_X11_wearOf (nI p) (nI j) b = some (nI (wear S p j), b)) ∧ (∀ j, j < pl S p → f_X11_toneOf (nI p) (nI j) b = some (nI (tn S p j), b)) ∧ 1 ≤ pl S p ∧ pl S p ≤ 8 ∧ pv S p < 4 := by
  have h16 := hI.1
  obtain ⟨g1, g2, g3⟩ := hI.2.2.2 p hp
  obtain ⟨k1, k2, k3, k4, k5, k6, k7, k8⟩ := g2
  have hIb := h.I hI
  obtain ⟨a1, a2, a3, a4, a5, a6, a7⟩ := h.acc (show p < 16 by omega)
  refine ⟨by rw [h 54 0 (by unfold pcA; omega)]; exact hI.2.2.1, by rw [h 56 p (by unfold pcA; omega)]; exact k3, by rw [h 59 p (by unfold pcA; omega)]; exact k6, fun j hj => by rw [h 55 _ (by unfold pcA; omega)]; exact (k8 j hj).1, fun j hj => ?_, fun j hj => ?_, g1.1, g1.2.1, g1.2.2.1⟩
  · rw [wearOf_ok hIb (by rw [h.n]; exact hp) hj, h.we h16 (by omega)]
  · rw [toneOf_ok hIb (by rw [h.n]; exact hp) (by rw [a1]; exact hj), (pf_t hIb (fun _ _ _ => rfl) (by rw [h.n]; exact hp) (by rw [a1]; exact hj)).2.2, a7]
theorem isBit_ok {S b : St} {v n q p i m : Nat} {r : Nat → Nat} (hI : I_pcs S) (hP : sameP S b) (hp : p < nP S) (hi : i < 8) (hm : m < 8) (hn : n ≤ 16) (hq : q < n) (hrow : ∀ x, x < n → rd b 63 x = nI (r x)) (hr : ∀ x, r x < 16) (hv : v < 4) :
    f_X11_isBit (nI v) (nI q) (nI n) (nI p) (nI i) (nI (m + 1)) b = some (bI (decide (pv S p = v ∧ i + m < pl S p ∧ q + m < n ∧ rn S r p m i q = true)), b) := by
  have h16 := hI.1
  obtain ⟨d0, d1, d2, d3, d4, d5, c2, c3, c4⟩ := pm_p hI hP hp
  unfold f_X11_isBit
  by_cases e1 : pv S p = v
  case neg =>
    rw [decide_eq_false (fun z => e1 z.1)]
    simp (disch := omega) only [md_n, lt_eq, bd_some, gN, gN2, le_T, le_F, lt_T, lt_F, eq_T, eq_F, cN, plus_n, mul_n, rem_n, div_n, sub_n, re_T, re_F, rl_wr, rd_wl, ne_m1, m1_ne, m1_lt, m1_le, m1_ge, m1_gt, m1_refl, ↓reduceIte, L0, L1, L2, L3, L4, L5, L6, L7, L8, L9, L10, L11, L15, L16, L17, L18, L20, L24, L26, L28, L31, L32, L35, L36, L48, L57, L59, L63, L64, L96, L97, L99, L100, L112, L122, L128, L200, L255, L256, L1000, L1024, L2000, L3000, L1000000, L1000000007, d2]
    rfl
  by_cases e2 : i + m < pl S p
  case neg =>
    rw [decide_eq_false (fun z => e2 z.2.1)]
    simp (disch := omega) only [md_n, lt_eq, bd_some, gN, gN2, le_T, le_F, lt_T, lt_F, eq_T, eq_F, cN, plus_n, mul_n, rem_n, div_n, sub_n, re_T, re_F, rl_wr, rd_wl, ne_m1, m1_ne, m1_lt, m1_le, m1_ge, m1_gt, m1_refl, ↓reduceIte, L0, L1, L2, L3, L4, L5, L6, L7, L8, L9, L10, L11, L15, L16, L17, L18, L20, L24, L26, L28, L31, L32, L35, L36, L48, L57, L59, L63, L64, L96, L97, L99, L100, L112, L122, L128, L200, L255, L256, L1000, L1024, L2000, L3000, L1000000, L1000000007, d2, d1]
    rfl
  by_cases e3 : q + m < n
  case neg =>
    rw [decide_eq_false (fun z => e3 z.2.2.1)]
    simp (disch := omega) only [md_n, lt_eq, bd_some, gN, gN2, le_T, le_F, lt_T, lt_F, eq_T, eq_F, cN, plus_n, mul_n, rem_n, div_n, sub_n, re_T, re_F, rl_wr, rd_wl, ne_m1, m1_ne, m1_lt, m1_le, m1_ge, m1_gt, m1_refl, ↓reduceIte, L0, L1, L2, L3, L4, L5, L6, L7, L8, L9, L10, L11, L15, L16, L17, L18, L20, L24, L26, L28, L31, L32, L35, L36, L48, L57, L59, L63, L64, L96, L97, L99, L100, L112, L122, L128, L200, L255, L256, L1000, L1024, L2000, L3000, L1000000, L1000000007, d2, d1]
    rfl
  simp (disch := omega) only [md_n, lt_eq, bd_some, gN, gN2, le_T, le_F, lt_T, lt_F, eq_T, eq_F, cN, plus_n, mul_n, rem_n, div_n, sub_n, re_T, re_F, rl_wr, rd_wl, ne_m1, m1_ne, m1_lt, m1_le, m1_ge, m1_gt, m1_refl, ↓reduceIte, L0, L1, L2, L3, L4, L5, L6, L7, L8, L9, L10, L11, L15, L16, L17, L18, L20, L24, L26, L28, L31, L32, L35, L36, L48, L57, L59, L63, L64, L96, L97, L99, L100, L112, L122, L128, L200, L255, L256, L1000, L1024, L2000, L3000, L1000000, L1000000007, d2, d1]
  refine loopC (fun f (_ : Unit) x => f_X11_isBit_L39 _ _ (nI q) (nI p) (nI i) (nI (m + 1)) f (nI x) b) (fun y => y = some (bI (decide (pv S p = v ∧ i + m < pl S p ∧ q + m < n ∧ rn S r p m i q = true)), b)) (fun x _ => ∀ y, y < x → sy S r p (i + y) (q + y) = true) (m + 1) ?_ ?_ (m + 1) 0 FU () (by omega) (by unfold FU; omega) (fun y hy => by omega)
  · intro f _ h
    rw [decide_eq_true ⟨e1, e2, e3, (rn_iff m i q).mpr (fun x hx => h x (by omega))⟩]
    show f_X11_isBit_L39 _ _ _ _ _ _ _ _ _ = _
    rw [f_X11_isBit_L39]
    simp (disch := omega) only [md_n, lt_eq, bd_some, gN, gN2, le_T, le_F, lt_T, lt_F, eq_T, eq_F, cN, plus_n, mul_n, rem_n, div_n, sub_n, re_T, re_F, rl_wr, rd_wl, ne_m1, m1_ne, m1_lt, m1_le, m1_ge, m1_gt, m1_refl, ↓reduceIte, L0, L1, L2, L3, L4, L5, L6, L7, L8, L9, L10, L11, L15, L16, L17, L18, L20, L24, L26, L28, L31, L32, L35, L36, L48, L57, L59, L63, L64, L96, L97, L99, L100, L112, L122, L128, L200, L255, L256, L1000, L1024, L2000, L3000, L1000000, L1000000007]
    rfl
  · intro f _ x hx h
    have f1 := d3 (i + x) (by omega)
    rw [← Nat.add_assoc] at f1
    have f2 := hrow (q + x) (by omega)
    have f3 := d4 (i + x) (by omega)
    have f4 := hr (q + x)
    have f5 := Nat.mod_lt (px S p / 16 ^ (i + x)) (show 16 > 0 by decide)
    have f6 := wear_le (S := S) (p := p) (j := i + x)
    by_cases c1 : px S p / 16 ^ (i + x) % 16 = r (q + x)
    · by_cases c2 : wear S p (i + x) = 2
      · left
        rw [decide_eq_false]
        · show f_X11_isBit_L39 _ _ _ _ _ _ _ _ _ = _
          rw [f_X11_isBit_L39]
          simp (disch := omega) only [md_n, lt_eq, bd_some, gN, gN2, le_T, le_F, lt_T, lt_F, eq_T, eq_F, cN, plus_n, mul_n, rem_n, div_n, sub_n, re_T, re_F, rl_wr, rd_wl, ne_m1, m1_ne, m1_lt, m1_le, m1_ge, m1_gt, m1_refl, ↓reduceIte, L0, L1, L2, L3, L4, L5, L6, L7, L8, L9, L10, L11, L15, L16, L17, L18, L20, L24, L26, L28, L31, L32, L35, L36, L48, L57, L59, L63, L64, L96, L97, L99, L100, L112, L122, L128, L200, L255, L256, L1000, L1024, L2000, L3000, L1000000, L1000000007, f1, f2, f3]
          rfl
        · intro z
          have := (rn_iff m i q).mp z.2.2.2 x (by omega)
          unfold sy at this
          rw [wear2.mp c2] at this
          simp at this
      · right
        refine ⟨(), ?_, fun y hy => ?_⟩
        · show f_X11_isBit_L39 _ _ _ _ _ _ _ _ _ = _
          rw [f_X11_isBit_L39]
          simp (disch := omega) only [md_n, lt_eq, bd_some, gN, gN2, le_T, le_F, lt_T, lt_F, eq_T, eq_F, cN, plus_n, mul_n, rem_n, div_n, sub_n, re_T, re_F, rl_wr, rd_wl, ne_m1, m1_ne, m1_lt, m1_le, m1_ge, m1_gt, m1_refl, ↓reduceIte, L0, L1, L2, L3, L4, L5, L6, L7, L8, L9, L10, L11, L15, L16, L17, L18, L20, L24, L26, L28, L31, L32, L35, L36, L48, L57, L59, L63, L64, L96, L97, L99, L100, L112, L122, L128, L200, L255, L256, L1000, L1024, L2000, L3000, L1000000, L1000000007, f1, f2, f3]
        · by_cases c3 : y = x
          · subst c3
            unfold sy
            rw [decide_eq_true c1, Bool.true_and]
            cases c4 : tb (lst S p) (i + y)
            · rfl
            · exact absurd (wear2.mpr c4) c2
          · exact h y (by omega)
    · left
      rw [decide_eq_false]
      · show f_X11_isBit_L39 _ _ _ _ _ _ _ _ _ = _
        rw [f_X11_isBit_L39]
        simp (disch := omega) only [md_n, lt_eq, bd_some, gN, gN2, le_T, le_F, lt_T, lt_F, eq_T, eq_F, cN, plus_n, mul_n, rem_n, div_n, sub_n, re_T, re_F, rl_wr, rd_wl, ne_m1, m1_ne, m1_lt, m1_le, m1_ge, m1_gt, m1_refl, ↓reduceIte, L0, L1, L2, L3, L4, L5, L6, L7, L8, L9, L10, L11, L15, L16, L17, L18, L20, L24, L26, L28, L31, L32, L35, L36, L48, L57, L59, L63, L64, L96, L97, L99, L100, L112, L122, L128, L200, L255, L256, L1000, L1024, L2000, L3000, L1000000, L1000000007, f1, f2]
        rfl
      · intro z
        have := (rn_iff m i q).mp z.2.2.2 x (by omega)
        unfold sy at this
        rw [decide_eq_false c1] at this
        simp at this
theorem cutsOf_ok {S b : St} {p i m : Nat} (hI : I_pcs S) (hP : sameP S b) (hct : rd b 54 7 = nI (ct S)) (hp : p < nP S) (him : i + m < pl S p) : f_X11_cutsOf (nI p) (nI i) (nI (m + 1)) b = some (nI (cB S i + cE S p (i + m)), b) := by
  have h16 := hI.1
  obtain ⟨d0, d1, d2, d3, d4, d5, c2, c3, c4⟩ := pm_p hI hP hp
  unfold f_X11_cutsOf cB cE
  by_cases e1 : i = 0
  · by_cases e2 : i + m + 1 = pl S p
    · rw [if_pos e1, if_pos e2]; simp (disch := omega) only [md_n, lt_eq, bd_some, gN, gN2, le_T, le_F, lt_T, lt_F, eq_T, eq_F, cN, plus_n, mul_n, rem_n, div_n, sub_n, re_T, re_F, rl_wr, rd_wl, ne_m1, m1_ne, m1_lt, m1_le, m1_ge, m1_gt, m1_refl, ↓reduceIte, L0, L1, L2, L3, L4, L5, L6, L7, L8, L9, L10, L11, L15, L16, L17, L18, L20, L24, L26, L28, L31, L32, L35, L36, L48, L57, L59, L63, L64, L96, L97, L99, L100, L112, L122, L128, L200, L255, L256, L1000, L1024, L2000, L3000, L1000000, L1000000007, hct, d1]; simp
    · rw [if_pos e1, if_neg e2]; simp (disch := omega) only [md_n, lt_eq, bd_some, gN, gN2, le_T, le_F, lt_T, lt_F, eq_T, eq_F, cN, plus_n, mul_n, rem_n, div_n, sub_n, re_T, re_F, rl_wr, rd_wl, ne_m1, m1_ne, m1_lt, m1_le, m1_ge, m1_gt, m1_refl, ↓reduceIte, L0, L1, L2, L3, L4, L5, L6, L7, L8, L9, L10, L11, L15, L16, L17, L18, L20, L24, L26, L28, L31, L32, L35, L36, L48, L57, L59, L63, L64, L96, L97, L99, L100, L112, L122, L128, L200, L255, L256, L1000, L1024, L2000, L3000, L1000000, L1000000007, hct, d1]; simp
  · by_cases e2 : i + m + 1 = pl S p
    · rw [if_neg e1, if_pos e2]; simp (disch := omega) only [md_n, lt_eq, bd_some, gN, gN2, le_T, le_F, lt_T, lt_F, eq_T, eq_F, cN, plus_n, mul_n, rem_n, div_n, sub_n, re_T, re_F, rl_wr, rd_wl, ne_m1, m1_ne, m1_lt, m1_le, m1_ge, m1_gt, m1_refl, ↓reduceIte, L0, L1, L2, L3, L4, L5, L6, L7, L8, L9, L10, L11, L15, L16, L17, L18, L20, L24, L26, L28, L31, L32, L35, L36, L48, L57, L59, L63, L64, L96, L97, L99, L100, L112, L122, L128, L200, L255, L256, L1000, L1024, L2000, L3000, L1000000, L1000000007, hct, d1]; simp
    · rw [if_neg e1, if_neg e2]; simp (disch := omega) only [md_n, lt_eq, bd_some, gN, gN2, le_T, le_F, lt_T, lt_F, eq_T, eq_F, cN, plus_n, mul_n, rem_n, div_n, sub_n, re_T, re_F, rl_wr, rd_wl, ne_m1, m1_ne, m1_lt, m1_le, m1_ge, m1_gt, m1_refl, ↓reduceIte, L0, L1, L2, L3, L4, L5, L6, L7, L8, L9, L10, L11, L15, L16, L17, L18, L20, L24, L26, L28, L31, L32, L35, L36, L48, L57, L59, L63, L64, L96, L97, L99, L100, L112, L122, L128, L200, L255, L256, L1000, L1024, L2000, L3000, L1000000, L1000000007, hct, d1]
      congr 3
      omega
def rl2 (J : Int32) (z : Int64) (P : Pl) (b c : Nat) : Prop := ((∀ k, P k = 0) ∧ J = nI 1000000 ∧ z = lN 0) ∨ ∃ j s, j ≤ b ∧ isL P j ∧ J = nI j ∧ z = lN s ∧ s % 1000000007 = P j % 1000000007 ∧ s ≤ c * 1000000007
