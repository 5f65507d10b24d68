/-! ===== tones in use; what is left, from tone to tone ===== -/
theorem gA1 {L : List Nat} {x i : Nat} (h : i < L.length) : (L ++ [x]).getD i 0 = L.getD i 0 := by
  simp [List.getD, List.getElem?_append, h]
theorem gA2 {L : List Nat} {x : Nat} : (L ++ [x]).getD L.length 0 = x := by
  simp [List.getD]
theorem fl_facts (p : Nat → Bool) (n : Nat) : (∀ i, i < ((List.range n).filter p).length → ((List.range n).filter p).getD i 0 < n ∧ p (((List.range n).filter p).getD i 0) = true) ∧
    (∀ i, i + 1 < ((List.range n).filter p).length → ((List.range n).filter p).getD i 0 < ((List.range n).filter p).getD (i + 1) 0 ∧ ∀ t, ((List.range n).filter p).getD i 0 < t → t < ((List.range n).filter p).getD (i + 1) 0 → p t = false) ∧
    (∀ t, t < n → p t = true → ∃ i, i < ((List.range n).filter p).length ∧ ((List.range n).filter p).getD i 0 = t) ∧
    (∀ t, 0 < ((List.range n).filter p).length → t < ((List.range n).filter p).getD 0 0 → p t = false) ∧
    (∀ t, t < n → (∀ i, i + 1 = ((List.range n).filter p).length → ((List.range n).filter p).getD i 0 < t) → p t = false) ∧ ((List.range n).filter p).length ≤ n := by
  induction n with
  | zero => refine ⟨fun i hi => ?_, fun i hi => ?_, fun t ht => ?_, fun t ht => ?_, fun t ht => ?_, ?_⟩ <;> first | omega | simp_all
  | succ n ih =>
    obtain ⟨h1, h2, h3, h4, h5, h6⟩ := ih
    have e : (List.range (n + 1)).filter p = if p n = true then (List.range n).filter p ++ [n] else (List.range n).filter p := by
      rw [List.range_succ, List.filter_append]
      split
      · next h => simp [h]
      · next h => simp [h]
    by_cases c : p n = true
    · rw [if_pos c] at e
      rw [e]
      generalize (List.range n).filter p = L at *
      simp only [List.length_append, List.length_singleton]
      refine ⟨fun i hi => ?_, fun i hi => ?_, fun t ht hp => ?_, fun t _ ht => ?_, fun t ht h => ?_, by omega⟩
      · by_cases d : i < L.length
        · rw [gA1 d]; have := h1 i d; exact ⟨by omega, this.2⟩
        · have : i = L.length := by omega
          subst this
          rw [gA2]; exact ⟨by omega, c⟩
      · rw [gA1 (show i < L.length by omega)]
        by_cases d : i + 1 < L.length
        · rw [gA1 d]; exact h2 i d
        · have d2 : i + 1 = L.length := by omega
          rw [d2, gA2]
          refine ⟨(h1 i (by omega)).1, fun t h8 h9 => h5 t h9 (fun k hk => ?_)⟩
          have : k = i := by omega
          subst this; exact h8
      · by_cases d : t = n
        · exact ⟨L.length, by omega, by rw [gA2, d]⟩
        · obtain ⟨i, hi, hh⟩ := h3 t (by omega) hp
          exact ⟨i, by omega, by rw [gA1 hi]; exact hh⟩
      · by_cases d : 0 < L.length
        · rw [gA1 d] at ht; exact h4 t d ht
        · have d2 : L.length = 0 := by omega
          have e2 : (L ++ [n]).getD 0 0 = n := by
            have := gA2 (L := L) (x := n)
            rw [d2] at this; exact this
          rw [e2] at ht
          exact h5 t ht (fun i hi => by omega)
      · have := h L.length rfl
        rw [gA2] at this
        omega
    · rw [if_neg c] at e
      rw [e]
      refine ⟨fun i hi => ?_, h2, fun t ht hp => ?_, h4, fun t ht h => ?_, by omega⟩
      · have := h1 i hi; exact ⟨by omega, this.2⟩
      · by_cases d : t = n
        · subst d; exact absurd hp c
        · exact h3 t (by omega) hp
      · by_cases d : t = n
        · subst d; exact Bool.eq_false_iff.mpr c
        · exact h5 t (by omega) h
theorem asl {J : Int32} {a b : Nat} (h : b ≤ a) : J + nI a - nI b = J + nI (a - b) := by
  rw [Int32.sub_eq_add_neg, Int32.add_assoc, ← Int32.sub_eq_add_neg, sub_n h]
def usL (S : St) (v : Nat) : List Nat := (List.range 100).filter (us S v)
def Xc (base c j : Nat) : Prop := (c = 7 ∨ c = 8) ∧ base ≤ j ∧ j < base + 100
theorem carryUp_ok {S a : St} {v base b0 : Nat} {B : Nat → Pl} (hbase : base + 100 ≤ 1700) (hb0 : b0 < 10000) (hU : hasL a 5 3 6 (usL S v)) (hB0 : ∀ s, us S v s = false → ∀ j, B s j = 0)
    (hB : ∀ t, us S v t = true → rp (rd a 11 t) (rd a 12 t) (B t) b0) :
    ∃ a', f_X6_carryUp (nI base) a = some ((), a') ∧ fr (Xc base) a a' ∧ ∀ m, m < (usL S v).length → rp (rd a' 7 (base + (usL S v).getD m 0)) (rd a' 8 (base + (usL S v).getD m 0)) (Up B ((usL S v).getD m 0)) (b0 + (usL S v).getD m 0) := by
  obtain ⟨u1, u2, u3, u4, u5, u6⟩ := fl_facts (us S v) 100
  rw [show (List.range 100).filter (us S v) = usL S v from rfl] at u1 u2 u3 u4 u5 u6
  generalize usL S v = U at *
  unfold f_X6_carryUp
  refine loopC (fun f (b : St) i => f_X6_carryUp_L2 (fun S30 => some ((), S30)) (nI base) f (nI i) b) (fun x => ∃ a', x = some ((), a') ∧ fr (Xc base) a a' ∧ ∀ m, m < U.length → rp (rd a' 7 (base + U.getD m 0)) (rd a' 8 (base + U.getD m 0)) (Up B (U.getD m 0)) (b0 + U.getD m 0))
    (fun i b => fr (Xc base) a b ∧ ∀ m, m < i → rp (rd b 7 (base + U.getD m 0)) (rd b 8 (base + U.getD m 0)) (Up B (U.getD m 0)) (b0 + U.getD m 0)) U.length ?_ ?_ U.length 0 FU a (by omega) (by unfold FU; omega) ⟨fr.refl _ _, fun m hm => by omega⟩
  · intro f b ⟨hf, hb⟩
    have e1 : rd b 3 6 = nI U.length := by rw [hf 3 6 (by unfold Xc; omega)]; exact hU.1
    refine ⟨b, ?_, hf, hb⟩
    rw [f_X6_carryUp_L2]
    simp (disch := omega) only [md_n, lt_eq, bd_some, gN, gN2, le_T, le_F, lt_T, lt_F, eq_T, eq_F, cN, plus_n, mul_n, rem_n, div_n, sub_n, re_T, re_F, rl_wr, rd_wl, ne_m1, m1_ne, m1_lt, m1_le, m1_ge, m1_gt, m1_refl, ↓reduceIte, L0, L1, L2, L3, L4, L5, L6, L7, L8, L9, L10, L11, L15, L16, L17, L18, L20, L24, L26, L28, L31, L32, L35, L36, L48, L57, L59, L63, L64, L96, L97, L99, L100, L112, L122, L128, L200, L255, L256, L1000, L1024, L2000, L3000, L1000000, L1000000007, e1]
  · intro f b i hi ⟨hf, hb⟩
    right
    have e1 : rd b 3 6 = nI U.length := by rw [hf 3 6 (by unfold Xc; omega)]; exact hU.1
    have e2 : rd b 5 i = nI (U.getD i 0) := by rw [hf 5 i (by unfold Xc; omega)]; exact hU.2 i hi
    obtain ⟨w1, w2⟩ := u1 i hi
    have hBi := hB _ w2
    have f11 : rd b 11 (U.getD i 0) = rd a 11 (U.getD i 0) := hf _ _ (by unfold Xc; omega)
    have f12 : rd b 12 (U.getD i 0) = rd a 12 (U.getD i 0) := hf _ _ (by unfold Xc; omega)
    generalize hb1 : wr (wr b 7 (base + U.getD i 0) (rd a 11 (U.getD i 0))) 8 (base + U.getD i 0) (rd a 12 (U.getD i 0)) = b1
    have g7 : rd b1 7 (base + U.getD i 0) = rd a 11 (U.getD i 0) := by rw [← hb1, rw_ne (by omega), rw_eq]
    have g8 : rd b1 8 (base + U.getD i 0) = rd a 12 (U.getD i 0) := by rw [← hb1, rw_eq]
    have g : fr (fun c j => (c = 7 ∨ c = 8) ∧ j = base + U.getD i 0) b b1 := by rw [← hb1]; exact ((fr.refl _ _).wr (by omega)).wr (by omega)
    by_cases c : i = 0
    · refine ⟨b1, ?_, hf.trans (g.mono (fun c j h => by unfold Xc; omega)), fun m hm => ?_⟩
      · rw [f_X6_carryUp_L2]
        simp (disch := omega) only [md_n, lt_eq, bd_some, gN, gN2, le_T, le_F, lt_T, lt_F, eq_T, eq_F, cN, plus_n, mul_n, rem_n, div_n, sub_n, re_T, re_F, rl_wr, rd_wl, ne_m1, m1_ne, m1_lt, m1_le, m1_ge, m1_gt, m1_refl, ↓reduceIte, L0, L1, L2, L3, L4, L5, L6, L7, L8, L9, L10, L11, L15, L16, L17, L18, L20, L24, L26, L28, L31, L32, L35, L36, L48, L57, L59, L63, L64, L96, L97, L99, L100, L112, L122, L128, L200, L255, L256, L1000, L1024, L2000, L3000, L1000000, L1000000007, e1, e2, f11, f12, hb1]
      · have : m = i := by omega
        subst this
        rw [g7, g8, Up_first w1 (fun s hs => hB0 s (u4 s (by omega) (by rw [c] at hs; exact hs)))]
        exact hBi.mono (by omega)
    · obtain ⟨z, rfl⟩ : ∃ z, i = z + 1 := ⟨i - 1, by omega⟩
      obtain ⟨x1, x2⟩ := u2 z hi
      have e3 : rd b 5 z = nI (U.getD z 0) := by rw [hf 5 z (by unfold Xc; omega)]; exact hU.2 z (by omega)
      have hz := hb z (by omega)
      rw [← g 7 _ (by omega), ← g 8 _ (by omega)] at hz
      obtain ⟨b2, o1, o2, o3⟩ := offer_ok (S := b1) (A := 7) (B := 8) (k := base + U.getD (z + 1) 0) (N := 1700) (b := b0 + U.getD (z + 1) 0) rfl rfl (by omega) (by decide) (by decide) (by rw [g7, g8]; exact hBi.mono (by omega)) ((hz.mv (U.getD (z + 1) 0 - U.getD z 0) (by omega)).mono (by omega)) (by omega)
      have e3' : rd b1 5 z = nI (U.getD z 0) := by rw [g _ _ (by omega)]; exact e3
      have q7 : rd b1 7 (base + U.getD z 0) = rd b 7 (base + U.getD z 0) := g _ _ (by omega)
      have q8 : rd b1 8 (base + U.getD z 0) = rd b 8 (base + U.getD z 0) := g _ _ (by omega)
      rw [q7, q8] at o1
      refine ⟨b2, ?_, (hf.trans (g.mono (fun c j h => by unfold Xc; omega))).trans (o3.mono (fun c j h => by unfold Xc; omega)), fun m hm => ?_⟩
      · rw [f_X6_carryUp_L2]
        simp (disch := omega) only [md_n, lt_eq, bd_some, gN, gN2, le_T, le_F, lt_T, lt_F, eq_T, eq_F, cN, plus_n, mul_n, rem_n, div_n, sub_n, re_T, re_F, rl_wr, rd_wl, ne_m1, m1_ne, m1_lt, m1_le, m1_ge, m1_gt, m1_refl, ↓reduceIte, L0, L1, L2, L3, L4, L5, L6, L7, L8, L9, L10, L11, L15, L16, L17, L18, L20, L24, L26, L28, L31, L32, L35, L36, L48, L57, L59, L63, L64, L96, L97, L99, L100, L112, L122, L128, L200, L255, L256, L1000, L1024, L2000, L3000, L1000000, L1000000007, e1, e2, f11, f12, hb1, Nat.add_sub_cancel, e3, asl, q7, q8, o1]
      · by_cases d : m = z + 1
        · subst d
          rw [Up_step x1 w1 (fun s h8 h9 => hB0 s (x2 s h8 h9))]
          exact o2
        · have hlt : U.getD m 0 ≠ U.getD (z + 1) 0 := by
            have : ∀ d, m + d < U.length → U.getD m 0 ≤ U.getD (m + d) 0 := by
              intro d
              induction d with
              | zero => intro _; exact Nat.le_refl _
              | succ d ih => intro h; have := ih (by omega); have := (u2 (m + d) h).1; rw [← Nat.add_assoc]; omega
            have := this (z - m) (by omega)
            rw [show m + (z - m) = z by omega] at this
            omega
          rw [o3 7 _ (by omega), o3 8 _ (by omega), g 7 _ (by omega), g 8 _ (by omega)]
          exact hb m (by omega)
