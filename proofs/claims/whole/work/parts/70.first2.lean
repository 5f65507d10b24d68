def tI (to : Option Nat) : Int32 := match to with
  | none => -1
  | some t => nI t
theorem fb30_ok {S a : St} {v n q k p due : Nat} {r : Nat → Nat} {to : Option Nat} {v4 : Int32} (K1 : Int32 → Int32 → St → Option (Int32 × St)) (K2 : St → Option (Int32 × St)) (hI : I_pcs S) (hc : I_cut S) (hv4 : v < 4) (hW : Ws S v n r a) (hR : Wr S v n r n a) (hn : n ≤ 16) (hr : ∀ x, r x < 16) (hk : q + (k + 1) = n) (hp : p < nP S) (hd : due ≤ 10000) (hto : ∀ t, to = some t → t < 100) :
    (∃ i m, i < 8 ∧ m < 8 ∧ good S v n r k to due p i m ∧ (∀ i', i' < i → ∀ m', ¬ good S v n r k to due p i' m') ∧ (∀ m', m' < m → ¬ good S v n r k to due p i m') ∧ f_X6_firstBit_L30 K1 K2 (nI q) (tI to) (nI due) v4 p FU (nI 0) a = K1 (nI i) (nI (m + 1)) a) ∨ ((∀ i m, ¬ good S v n r k to due p i m) ∧ f_X6_firstBit_L30 K1 K2 (nI q) (tI to) (nI due) v4 p FU (nI 0) a = K2 a) := by
  obtain ⟨d0, d1, d2, d5, c1, c2, c3, c4, c5⟩ := pf_p hI (Xw_pc hW.1) hp
  have e33 := hW.2.1
  have hct : rd a 3 4 = nI (ct S) := by rw [hW.1 3 4 (by unfold Xw; omega)]; exact hc.1
  by_cases hv : pv S p = v
  · rw [hv] at d2
    refine loopC (fun f (_ : Unit) i => f_X6_firstBit_L30 K1 K2 (nI q) (tI to) (nI due) v4 p f (nI i) a) (fun y => (∃ i m, i < 8 ∧ m < 8 ∧ good S v n r k to due p i m ∧ (∀ i', i' < i → ∀ m', ¬ good S v n r k to due p i' m') ∧ (∀ m', m' < m → ¬ good S v n r k to due p i m') ∧ y = K1 (nI i) (nI (m + 1)) a) ∨ ((∀ i m, ¬ good S v n r k to due p i m) ∧ y = K2 a))
      (fun i _ => ∀ i', i' < i → ∀ m', ¬ good S v n r k to due p i' m') (pl S p) ?_ ?_ (pl S p) 0 FU () (by omega) (by unfold FU; omega) (fun i hi => by omega)
    · intro f _ h
      refine Or.inr ⟨fun i m hg => ?_, ?_⟩
      · have hg0 := hg
        obtain ⟨-, g2, -⟩ := hg
        exact h i (by omega) m hg0
      · show f_X6_firstBit_L30 _ _ _ _ _ _ _ _ _ _ = _
        rw [f_X6_firstBit_L30]
        simp (disch := omega) only [md_n, lt_eq, bd_some, gN, gN2, le_T, le_F, lt_T, lt_F, eq_T, eq_F, cN, plus_n, mul_n, rem_n, div_n, sub_n, re_T, re_F, rl_wr, rd_wl, ne_m1, m1_ne, m1_lt, m1_le, m1_ge, m1_gt, m1_refl, ↓reduceIte, L0, L1, L2, L3, L4, L5, L6, L7, L8, L9, L10, L11, L15, L16, L17, L18, L20, L24, L26, L28, L31, L32, L35, L36, L48, L57, L59, L63, L64, L96, L97, L99, L100, L112, L122, L128, L200, L255, L256, L1000, L1024, L2000, L3000, L1000000, L1000000007, d1]
    · intro f _ i hi h
      have hcB := cB_lt hc i
      have hB := cutsB_ok (a := a) (p := p) (i := i) (by omega)
      obtain ⟨e5, e6, -⟩ := pf_t hI (Xw_pc hW.1) hp hi
      have key : ∃ z, f_X6_firstBit_L30 K1 K2 (nI q) (tI to) (nI due) v4 p (f + 1) (nI i) a = (if nI z ≤ nI 0 then f_X6_firstBit_L30 K1 K2 (nI q) (tI to) (nI due) v4 p f (nI (i + 1)) a else K1 (nI i) (nI z) a) ∧ z ≤ 8 ∧ ((z = 0 ∧ ∀ m, ¬ good S v n r k to due p i m) ∨ ∃ m, z = m + 1 ∧ m < 8 ∧ good S v n r k to due p i m ∧ ∀ m', m' < m → ¬ good S v n r k to due p i m') := by
        cases to with
        | none =>
          obtain ⟨z, z1, z2⟩ := fewest_ok (S := S) (a := a) (v := v) (n := n) (q := q) (k := k) (p := p) (i := i) (due := due) (paid := cB S i) (r := r) (to := none) hI hc hW hR hn hr hk hp hv hi hd rfl (by omega)
          refine ⟨z, ?_, by rcases z2 with ⟨h, -⟩ | ⟨m, h, h', -⟩ <;> omega, z2⟩
          show f_X6_firstBit_L30 _ _ _ (-nI 1) _ _ _ _ _ _ = _
          rw [f_X6_firstBit_L30]
          simp (disch := omega) only [md_n, lt_eq, bd_some, gN, gN2, le_T, le_F, lt_T, lt_F, eq_T, eq_F, cN, plus_n, mul_n, rem_n, div_n, sub_n, re_T, re_F, rl_wr, rd_wl, ne_m1, m1_ne, m1_lt, m1_le, m1_ge, m1_gt, m1_refl, ↓reduceIte, L0, L1, L2, L3, L4, L5, L6, L7, L8, L9, L10, L11, L15, L16, L17, L18, L20, L24, L26, L28, L31, L32, L35, L36, L48, L57, L59, L63, L64, L96, L97, L99, L100, L112, L122, L128, L200, L255, L256, L1000, L1024, L2000, L3000, L1000000, L1000000007, d1, d2, e33, hB, hct, cB_mul, -sub_n, z1]
          rfl
        | some t =>
          have ht := hto t rfl
          have hdl := dst_lt ht e6
          obtain ⟨z, z1, z2⟩ := fewest_ok (S := S) (a := a) (v := v) (n := n) (q := q) (k := k) (p := p) (i := i) (due := due) (paid := cB S i + dst t (tn S p i)) (r := r) (to := some t) hI hc hW hR hn hr hk hp hv hi hd rfl (by omega)
          refine ⟨z, ?_, by rcases z2 with ⟨h, -⟩ | ⟨m, h, h', -⟩ <;> omega, z2⟩
          have hab := mabs_n (a := t) (b := tn S p i) (by omega) (by omega)
          show f_X6_firstBit_L30 _ _ _ (nI t) _ _ _ _ _ _ = _
          rw [f_X6_firstBit_L30]
          simp (disch := omega) only [md_n, lt_eq, bd_some, gN, gN2, le_T, le_F, lt_T, lt_F, eq_T, eq_F, cN, plus_n, mul_n, rem_n, div_n, sub_n, re_T, re_F, rl_wr, rd_wl, ne_m1, m1_ne, m1_lt, m1_le, m1_ge, m1_gt, m1_refl, ↓reduceIte, L0, L1, L2, L3, L4, L5, L6, L7, L8, L9, L10, L11, L15, L16, L17, L18, L20, L24, L26, L28, L31, L32, L35, L36, L48, L57, L59, L63, L64, L96, L97, L99, L100, L112, L122, L128, L200, L255, L256, L1000, L1024, L2000, L3000, L1000000, L1000000007, d1, d2, e33, hB, hct, cB_mul, e5, -sub_n, hab, z1]
          rfl
      obtain ⟨z, k1, k2, k3⟩ := key
      rcases k3 with ⟨rfl, k4⟩ | ⟨m, rfl, k4, k5, k6⟩
      · right
        refine ⟨(), ?_, fun i' hi' => ?_⟩
        · rw [k1, if_pos (Int32.le_refl _)]
        · by_cases c : i' = i
          · subst c; exact k4
          · exact h i' (by omega)
      · left
        refine Or.inl ⟨i, m, by omega, k4, k5, h, k6, ?_⟩
        rw [k1, if_neg (by rw [le_n (by omega) (by omega)]; omega)]
  · refine Or.inr ⟨fun i m hg => hv hg.1, ?_⟩
    show f_X6_firstBit_L30 _ _ _ _ _ _ _ (19999 + 1) _ _ = _
    rw [f_X6_firstBit_L30]
    simp (disch := omega) only [md_n, lt_eq, bd_some, gN, gN2, le_T, le_F, lt_T, lt_F, eq_T, eq_F, cN, plus_n, mul_n, rem_n, div_n, sub_n, re_T, re_F, rl_wr, rd_wl, ne_m1, m1_ne, m1_lt, m1_le, m1_ge, m1_gt, m1_refl, ↓reduceIte, L0, L1, L2, L3, L4, L5, L6, L7, L8, L9, L10, L11, L15, L16, L17, L18, L20, L24, L26, L28, L31, L32, L35, L36, L48, L57, L59, L63, L64, L96, L97, L99, L100, L112, L122, L128, L200, L255, L256, L1000, L1024, L2000, L3000, L1000000, L1000000007, d1, d2, e33]
theorem firstBit_ok {S a : St} {v n q k due C : Nat} {r : Nat → Nat} {to : Option Nat} (hI : I_pcs S) (hc : I_cut S) (hv4 : v < 4) (hW : Ws S v n r a) (hR : Wr S v n r n a) (hn : n ≤ 16) (hr : ∀ x, r x < 16) (hk : q + (k + 1) = n) (hd : due ≤ 10000) (hto : ∀ t, to = some t → t < 100) (hC : fstC S v n r k to due C) :
    f_X6_firstBit (nI q) (tI to) (nI due) a = some (nI (cde C), a) := by
  have h16 := hI.1
  have e1 := pf_1 hI (Xw_pc hW.1)
  have e0 := pf_n (Xw_pc hW.1)
  unfold f_X6_firstBit
  refine loopC (fun f (_ : Unit) p => f_X6_firstBit_L3 _ _ (nI q) (tI to) (nI due) f (nI p) a) (fun y => y = some (nI (cde C), a)) (fun p _ => ∀ p', p' < p → ∀ i m, ¬ good S v n r k to due p' i m) (nP S) ?_ ?_ (nP S) 0 FU () (by omega) (by unfold FU; omega) (fun p hp => by omega)
  · intro f _ h
    exact absurd hC.2.1 (h (C / 64) (by have := hC.1; omega) _ _)
  · intro f _ p hp h
    rcases fb30_ok (S := S) (a := a) (v := v) (n := n) (q := q) (k := k) (p := p) (due := due) (r := r) (to := to) (v4 := nI p) (fun x27 x28 S29 => some (((((256 : Int32) * nI p) + ((16 : Int32) * x27)) + x28), S29)) (fun S30 => f_X6_firstBit_L3 (fun (x32 : Int32) (x33 : Int32) (x34 : Int32) (S35 : St) => some (((((256 : Int32) * x32) + ((16 : Int32) * x33)) + x34), S35)) (fun  (S36 : St) => some ((-1 : Int32), S36)) (nI q) (tI to) (nI due) f (nI (p + 1)) S30) hI hc hv4 hW hR hn hr hk hp hd hto with ⟨i, m, hi, hm, g1, g2, g3, g4⟩ | ⟨g1, g2⟩
    · left
      have hfst : fstC S v n r k to due (64 * p + 8 * i + m) := by
        have a1 : (64 * p + 8 * i + m) / 64 = p := by omega
        have a2 : (64 * p + 8 * i + m) / 8 % 8 = i := by omega
        have a3 : (64 * p + 8 * i + m) % 8 = m := by omega
        refine ⟨by omega, by unfold goodC; rw [a1, a2, a3]; exact g1, fun c hcl hg => ?_⟩
        unfold goodC at hg
        by_cases b1 : c / 64 < p
        · exact h _ b1 _ _ hg
        · have b2 : c / 64 = p := by omega
          rw [b2] at hg
          by_cases b3 : c / 8 % 8 < i
          · exact g2 _ b3 _ hg
          · have b4 : c / 8 % 8 = i := by omega
            rw [b4] at hg
            exact g3 _ (by omega) hg
      have := fstC_uniq hC hfst
      subst this
      show f_X6_firstBit_L3 _ _ _ _ _ _ _ _ = _
      rw [f_X6_firstBit_L3]
      simp (disch := omega) only [md_n, lt_eq, bd_some, gN, gN2, le_T, le_F, lt_T, lt_F, eq_T, eq_F, cN, plus_n, mul_n, rem_n, div_n, sub_n, re_T, re_F, rl_wr, rd_wl, ne_m1, m1_ne, m1_lt, m1_le, m1_ge, m1_gt, m1_refl, ↓reduceIte, L0, L1, L2, L3, L4, L5, L6, L7, L8, L9, L10, L11, L15, L16, L17, L18, L20, L24, L26, L28, L31, L32, L35, L36, L48, L57, L59, L63, L64, L96, L97, L99, L100, L112, L122, L128, L200, L255, L256, L1000, L1024, L2000, L3000, L1000000, L1000000007, e1, e0, -L256, -L16]
      refine g4.trans ?_
      simp (disch := omega) only [md_n, lt_eq, bd_some, gN, gN2, le_T, le_F, lt_T, lt_F, eq_T, eq_F, cN, plus_n, mul_n, rem_n, div_n, sub_n, re_T, re_F, rl_wr, rd_wl, ne_m1, m1_ne, m1_lt, m1_le, m1_ge, m1_gt, m1_refl, ↓reduceIte, L0, L1, L2, L3, L4, L5, L6, L7, L8, L9, L10, L11, L15, L16, L17, L18, L20, L24, L26, L28, L31, L32, L35, L36, L48, L57, L59, L63, L64, L96, L97, L99, L100, L112, L122, L128, L200, L255, L256, L1000, L1024, L2000, L3000, L1000000, L1000000007]
      congr 3
      unfold cde
      omega
    · right
      refine ⟨(), ?_, fun p' hp' => ?_⟩
      · show f_X6_firstBit_L3 _ _ _ _ _ _ _ _ = _
        rw [f_X6_firstBit_L3]
        simp (disch := omega) only [md_n, lt_eq, bd_some, gN, gN2, le_T, le_F, lt_T, lt_F, eq_T, eq_F, cN, plus_n, mul_n, rem_n, div_n, sub_n, re_T, re_F, rl_wr, rd_wl, ne_m1, m1_ne, m1_lt, m1_le, m1_ge, m1_gt, m1_refl, ↓reduceIte, L0, L1, L2, L3, L4, L5, L6, L7, L8, L9, L10, L11, L15, L16, L17, L18, L20, L24, L26, L28, L31, L32, L35, L36, L48, L57, L59, L63, L64, L96, L97, L99, L100, L112, L122, L128, L200, L255, L256, L1000, L1024, L2000, L3000, L1000000, L1000000007, e1, e0, -L256, -L16]
        exact g2
      · by_cases c : p' = p
        · subst c; exact g1
        · exact h p' (by omega)
