/-! ===== a row weighed ===== -/
def Gp (S : St) (v n : Nat) (r : Nat → Nat) (k : Nat) (p t : Nat) : Pl := fun j => sN p (fun p => if pv S p = v then sN (pl S p) (fun i => if tn S p i = t then sh (cB S i) (DI S v n r (k + 1) p i) j else 0) else 0)
/-- all that stays while the row is weighed -/
def Ws (S : St) (v n : Nat) (r : Nat → Nat) (b : St) : Prop := fr Xw S b ∧ rd b 3 3 = nI v ∧ rd b 3 2 = nI n ∧ (∀ i, i < n → rd b 4 i = nI (r i)) ∧ hasL b 5 3 6 (usL S v)
theorem Ws.go {S : St} {v n : Nat} {r : Nat → Nat} {b b' : St} (h : Ws S v n r b) (hf : fr (fun c j => (7 ≤ c ∧ c ≤ 13) ∨ c = 3 ∧ (j = 14 ∨ j = 15 ∨ j = 17)) b b') : Ws S v n r b' := by
  obtain ⟨h1, h2, h3, h4, h5, h6⟩ := h
  refine ⟨h1.trans (hf.mono (fun c j h => by unfold Xw; omega)), ?_, ?_, fun i hi => ?_, ?_, fun i hi => ?_⟩
  · rw [hf _ _ (by omega)]; exact h2
  · rw [hf _ _ (by omega)]; exact h3
  · rw [hf _ _ (by omega)]; exact h4 i hi
  · rw [hf _ _ (by omega)]; exact h5
  · rw [hf _ _ (by omega)]; exact h6 i hi
def Wr (S : St) (v n : Nat) (r : Nat → Nat) (k : Nat) (b : St) : Prop := ∀ m, m ≤ k → m < n → ∀ t, us S v t = true → rp (rd b 7 ((n - m) * 100 + t)) (rd b 8 ((n - m) * 100 + t)) (DT S v n r m t) (300 * m)
def Wi (S : St) (v n : Nat) (r : Nat → Nat) (k : Nat) (b : St) : Prop := ∀ p, p < nP S → pv S p = v → ∀ m, m < pl S p → rp (rd b 9 (p * 8 + m)) (rd b 10 (p * 8 + m)) (DI S v n r k p m) (300 * k)
theorem us_lt {S : St} {v t : Nat} (hI : I_pcs S) (h : us S v t = true) : t < 100 := by
  obtain ⟨p, hp, -, i, hi, rfl⟩ := us_iff.mp h
  exact tn_lt hI p i hp hi
theorem L142_ok {S a : St} {v n : Nat} {r : Nat → Nat} {v1 v5 : Int32} (h : Ws S v n r a) (K : St → Option (Unit × St)) : ∃ a', f_X6_weigh_L142 K v1 v5 FU (nI 0) a = K a' ∧ fr (fun c _ => c = 11 ∨ c = 12) a a' ∧ ∀ t, us S v t = true → t < 100 → rd a' 11 t = nI 1000000 ∧ rd a' 12 t = nI 0 := by
  obtain ⟨u1, -, u3, -, -, u6⟩ := fl_facts (us S v) 100
  have hU := h.2.2.2.2
  rw [show (List.range 100).filter (us S v) = usL S v from rfl] at u1 u3 u6
  generalize usL S v = U at *
  refine loopC (fun f (b : St) i => f_X6_weigh_L142 K v1 v5 f (nI i) b) (fun x => ∃ a', x = K a' ∧ fr (fun c _ => c = 11 ∨ c = 12) a a' ∧ ∀ t, us S v t = true → t < 100 → rd a' 11 t = nI 1000000 ∧ rd a' 12 t = nI 0)
    (fun i b => fr (fun c _ => c = 11 ∨ c = 12) a b ∧ ∀ m, m < i → rd b 11 (U.getD m 0) = nI 1000000 ∧ rd b 12 (U.getD m 0) = nI 0) U.length ?_ ?_ U.length 0 FU a (by omega) (by unfold FU; omega) ⟨fr.refl _ _, fun m hm => by omega⟩
  · intro f b ⟨hb, hb2⟩
    have e1 : rd b 3 6 = nI U.length := by rw [hb _ _ (by omega)]; exact hU.1
    refine ⟨b, ?_, hb, fun t ht ht2 => ?_⟩
    · rw [f_X6_weigh_L142]
      simp (disch := omega) only [md_n, lt_eq, bd_some, gN, gN2, le_T, le_F, lt_T, lt_F, eq_T, eq_F, cN, plus_n, mul_n, rem_n, div_n, sub_n, re_T, re_F, rl_wr, rd_wl, ne_m1, m1_ne, m1_lt, m1_le, m1_ge, m1_gt, m1_refl, ↓reduceIte, L0, L1, L2, L3, L4, L5, L6, L7, L8, L9, L10, L11, L15, L16, L17, L18, L20, L24, L26, L28, L31, L32, L35, L36, L48, L57, L59, L63, L64, L96, L97, L99, L100, L112, L122, L128, L200, L255, L256, L1000, L1024, L2000, L3000, L1000000, L1000000007, e1]
    · obtain ⟨i, hi, rfl⟩ := u3 t ht2 ht
      exact hb2 i hi
  · intro f b i hi ⟨hb, hb2⟩
    have e1 : rd b 3 6 = nI U.length := by rw [hb _ _ (by omega)]; exact hU.1
    have e2 : rd b 5 i = nI (U.getD i 0) := by rw [hb _ _ (by omega)]; exact hU.2 i hi
    have w1 := (u1 i hi).1
    refine Or.inr ⟨wr (wr b 11 (U.getD i 0) (nI 1000000)) 12 (U.getD i 0) (nI 0), ?_, (hb.wr (by omega)).wr (by omega), fun m hm => ?_⟩
    · rw [f_X6_weigh_L142]
      simp (disch := omega) only [md_n, lt_eq, bd_some, gN, gN2, le_T, le_F, lt_T, lt_F, eq_T, eq_F, cN, plus_n, mul_n, rem_n, div_n, sub_n, re_T, re_F, rl_wr, rd_wl, ne_m1, m1_ne, m1_lt, m1_le, m1_ge, m1_gt, m1_refl, ↓reduceIte, L0, L1, L2, L3, L4, L5, L6, L7, L8, L9, L10, L11, L15, L16, L17, L18, L20, L24, L26, L28, L31, L32, L35, L36, L48, L57, L59, L63, L64, L96, L97, L99, L100, L112, L122, L128, L200, L255, L256, L1000, L1024, L2000, L3000, L1000000, L1000000007, e1, e2]
    · by_cases c : U.getD m 0 = U.getD i 0
      · rw [c, rw_ne (by omega), rw_eq, rw_eq]; exact ⟨rfl, rfl⟩
      · have : m ≠ i := fun z => c (by rw [z])
        rw [rw_ne (by omega), rw_ne (by omega), rw_ne (by omega), rw_ne (by omega)]; exact hb2 m (by omega)
theorem L75_ok {S a : St} {v n : Nat} {r : Nat → Nat} {v1 : Int32} (hn : n ≤ 16) (h : Ws S v n r a) (K : St → Option (Unit × St)) : ∃ a', f_X6_weigh_L75 K v1 (nI n) FU (nI 0) a = K a' ∧ fr (fun c _ => c = 7 ∨ c = 8) a a' ∧ ∀ t, us S v t = true → t < 100 → rd a' 7 (n * 100 + t) = nI 0 ∧ rd a' 8 (n * 100 + t) = nI 1 := by
  obtain ⟨u1, -, u3, -, -, u6⟩ := fl_facts (us S v) 100
  have hU := h.2.2.2.2
  rw [show (List.range 100).filter (us S v) = usL S v from rfl] at u1 u3 u6
  generalize usL S v = U at *
  refine loopC (fun f (b : St) i => f_X6_weigh_L75 K v1 (nI n) f (nI i) b) (fun x => ∃ a', x = K a' ∧ fr (fun c _ => c = 7 ∨ c = 8) a a' ∧ ∀ t, us S v t = true → t < 100 → rd a' 7 (n * 100 + t) = nI 0 ∧ rd a' 8 (n * 100 + t) = nI 1)
    (fun i b => fr (fun c _ => c = 7 ∨ c = 8) a b ∧ ∀ m, m < i → rd b 7 (n * 100 + U.getD m 0) = nI 0 ∧ rd b 8 (n * 100 + U.getD m 0) = nI 1) U.length ?_ ?_ U.length 0 FU a (by omega) (by unfold FU; omega) ⟨fr.refl _ _, fun m hm => by omega⟩
  · intro f b ⟨hb, hb2⟩
    have e1 : rd b 3 6 = nI U.length := by rw [hb _ _ (by omega)]; exact hU.1
    refine ⟨b, ?_, hb, fun t ht ht2 => ?_⟩
    · rw [f_X6_weigh_L75]
      simp (disch := omega) only [md_n, lt_eq, bd_some, gN, gN2, le_T, le_F, lt_T, lt_F, eq_T, eq_F, cN, plus_n, mul_n, rem_n, div_n, sub_n, re_T, re_F, rl_wr, rd_wl, ne_m1, m1_ne, m1_lt, m1_le, m1_ge, m1_gt, m1_refl, ↓reduceIte, L0, L1, L2, L3, L4, L5, L6, L7, L8, L9, L10, L11, L15, L16, L17, L18, L20, L24, L26, L28, L31, L32, L35, L36, L48, L57, L59, L63, L64, L96, L97, L99, L100, L112, L122, L128, L200, L255, L256, L1000, L1024, L2000, L3000, L1000000, L1000000007, e1]
    · obtain ⟨i, hi, rfl⟩ := u3 t ht2 ht
      exact hb2 i hi
  · intro f b i hi ⟨hb, hb2⟩
    have e1 : rd b 3 6 = nI U.length := by rw [hb _ _ (by omega)]; exact hU.1
    have e2 : rd b 5 i = nI (U.getD i 0) := by rw [hb _ _ (by omega)]; exact hU.2 i hi
    have w1 := (u1 i hi).1
    refine Or.inr ⟨wr (wr b 7 (n * 100 + U.getD i 0) (nI 0)) 8 (n * 100 + U.getD i 0) (nI 1), ?_, (hb.wr (by omega)).wr (by omega), fun m hm => ?_⟩
    · rw [f_X6_weigh_L75]
      simp (disch := omega) only [md_n, lt_eq, bd_some, gN, gN2, le_T, le_F, lt_T, lt_F, eq_T, eq_F, cN, plus_n, mul_n, rem_n, div_n, sub_n, re_T, re_F, rl_wr, rd_wl, ne_m1, m1_ne, m1_lt, m1_le, m1_ge, m1_gt, m1_refl, ↓reduceIte, L0, L1, L2, L3, L4, L5, L6, L7, L8, L9, L10, L11, L15, L16, L17, L18, L20, L24, L26, L28, L31, L32, L35, L36, L48, L57, L59, L63, L64, L96, L97, L99, L100, L112, L122, L128, L200, L255, L256, L1000, L1024, L2000, L3000, L1000000, L1000000007, e1, e2]
    · by_cases c : U.getD m 0 = U.getD i 0
      · rw [c, rw_ne (by omega), rw_eq, rw_eq]; exact ⟨rfl, rfl⟩
      · have : m ≠ i := fun z => c (by rw [z])
        rw [rw_ne (by omega), rw_ne (by omega), rw_ne (by omega), rw_ne (by omega)]; exact hb2 m (by omega)
theorem L187_ok {S a : St} {v n q k : Nat} {r : Nat → Nat} (hI : I_pcs S) (hc : I_cut S) (hv4 : v < 4) (hn : n ≤ 16) (hk : q + (k + 1) = n) (hr : ∀ i, r i < 16) (h : Ws S v n r a) (hR : Wr S v n r k a) (hJ : Wi S v n r k a)
    (hB : ∀ t, us S v t = true → t < 100 → rd a 11 t = nI 1000000 ∧ rd a 12 t = nI 0) (K : St → Option (Unit × St)) :
    ∃ a', f_X6_weigh_L187 K (nI v) (nI q) FU (nI 0) a = K a' ∧ fr (fun c _ => 9 ≤ c ∧ c ≤ 12) a a' ∧ Wi S v n r (k + 1) a' ∧ ∀ t, us S v t = true → rp (rd a' 11 t) (rd a' 12 t) (Bg S v n r (k + 1) t) (300 * k + 200) := by
  have h16 := hI.1
  refine loopC (fun f (b : St) i => f_X6_weigh_L187 K (nI v) (nI q) f (nI i) b) (fun x => ∃ a', x = K a' ∧ fr (fun c _ => 9 ≤ c ∧ c ≤ 12) a a' ∧ Wi S v n r (k + 1) a' ∧ ∀ t, us S v t = true → rp (rd a' 11 t) (rd a' 12 t) (Bg S v n r (k + 1) t) (300 * k + 200))
    (fun i b => fr (fun c _ => 9 ≤ c ∧ c ≤ 12) a b ∧ (∀ p, p < nP S → pv S p = v → ∀ m, m < pl S p → if p < i then rp (rd b 9 (p * 8 + m)) (rd b 10 (p * 8 + m)) (DI S v n r (k + 1) p m) (300 * k + 100) else rp (rd b 9 (p * 8 + m)) (rd b 10 (p * 8 + m)) (DI S v n r k p m) (300 * k)) ∧ ∀ t, us S v t = true → rp (rd b 11 t) (rd b 12 t) (Gp S v n r k i t) (300 * k + 200)) (nP S) ?_ ?_ (nP S) 0 FU a (by omega) (by unfold FU; omega) ⟨fr.refl _ _, fun p hp hv m hm => by rw [if_neg (by omega)]; exact hJ p hp hv m hm, fun t ht => ?_⟩
  · intro f b ⟨hb, hb2, hb3⟩
    have hfb : Ws S v n r b := h.go (hb.mono (fun c j h => by omega))
    have e1 := pf_1 hI (Xw_pc hfb.1)
    refine ⟨b, ?_, hb, fun p hp hv m hm => ?_, hb3⟩
    · rw [f_X6_weigh_L187]
      simp (disch := omega) only [md_n, lt_eq, bd_some, gN, gN2, le_T, le_F, lt_T, lt_F, eq_T, eq_F, cN, plus_n, mul_n, rem_n, div_n, sub_n, re_T, re_F, rl_wr, rd_wl, ne_m1, m1_ne, m1_lt, m1_le, m1_ge, m1_gt, m1_refl, ↓reduceIte, L0, L1, L2, L3, L4, L5, L6, L7, L8, L9, L10, L11, L15, L16, L17, L18, L20, L24, L26, L28, L31, L32, L35, L36, L48, L57, L59, L63, L64, L96, L97, L99, L100, L112, L122, L128, L200, L255, L256, L1000, L1024, L2000, L3000, L1000000, L1000000007, e1]
    · have := hb2 p hp hv m hm
      rw [if_pos hp] at this
      exact this.mono (by omega)
  · intro f b p hp ⟨hb, hb2, hb3⟩
    right
    have hfb : Ws S v n r b := h.go (hb.mono (fun c j h => by omega))
    have e1 := pf_1 hI (Xw_pc hfb.1)
    have e0 := pf_n (Xw_pc hfb.1)
    obtain ⟨-, -, d2, -, -, c2, c3, c4, -⟩ := pf_p hI (Xw_pc hfb.1) hp
    by_cases hv : pv S p = v
    · obtain ⟨b2, w1, w2, w3, w4, w5⟩ := wp_ok (S := S) (v := v) (n := n) (q := q) (k := k) (r := r) (p := p) (G := Gp S v n r k p) (a := b) hI hc hp hv hn hk (hr q) hfb.1 (hfb.2.2.2.1 q (by omega))
        (fun i hi => by
          have := hR k (Nat.le_refl _) (by omega) (tn S p i) (us_iff.mpr ⟨p, hp, hv, i, hi, rfl⟩)
          rw [show n - k = q + 1 by omega] at this
          rw [hb 7 _ (by omega), hb 8 _ (by omega)]
          exact this)
        (fun i hi => by have := hb2 p hp hv i hi; rw [if_neg (by omega)] at this; exact this) hb3
      refine ⟨b2, ?_, hb.trans (w2.mono (fun c j h => by unfold Xp at h; omega)), fun p' hp' hv' m hm => ?_, fun t ht => (w5 t ht).to ?_⟩
      · rw [f_X6_weigh_L187]
        rw [hv] at d2
        simp (disch := omega) only [md_n, lt_eq, bd_some, gN, gN2, le_T, le_F, lt_T, lt_F, eq_T, eq_F, cN, plus_n, mul_n, rem_n, div_n, sub_n, re_T, re_F, rl_wr, rd_wl, ne_m1, m1_ne, m1_lt, m1_le, m1_ge, m1_gt, m1_refl, ↓reduceIte, L0, L1, L2, L3, L4, L5, L6, L7, L8, L9, L10, L11, L15, L16, L17, L18, L20, L24, L26, L28, L31, L32, L35, L36, L48, L57, L59, L63, L64, L96, L97, L99, L100, L112, L122, L128, L200, L255, L256, L1000, L1024, L2000, L3000, L1000000, L1000000007, e1, e0, d2, w1]
      · by_cases c : p' = p
        · subst c
          rw [if_pos (by omega)]
          exact w3 m hm
        · have hd := hb2 p' hp' hv' m hm
          obtain ⟨-, -, -, -, -, -, c3', -⟩ := pf_p hI (Xw_pc hfb.1) hp'
          rw [w2 9 _ (by unfold Xp; omega), w2 10 _ (by unfold Xp; omega)]
          by_cases c4 : p' < p
          · rw [if_pos c4] at hd; rw [if_pos (by omega)]; exact hd
          · rw [if_neg c4] at hd; rw [if_neg (by omega)]; exact hd
      · funext j
        unfold GI Gp
        rw [sN, if_pos hv]
    · refine ⟨b, ?_, hb, fun p' hp' hv' m hm => ?_, fun t ht => (hb3 t ht).to ?_⟩
      · rw [f_X6_weigh_L187]
        simp (disch := omega) only [md_n, lt_eq, bd_some, gN, gN2, le_T, le_F, lt_T, lt_F, eq_T, eq_F, cN, plus_n, mul_n, rem_n, div_n, sub_n, re_T, re_F, rl_wr, rd_wl, ne_m1, m1_ne, m1_lt, m1_le, m1_ge, m1_gt, m1_refl, ↓reduceIte, L0, L1, L2, L3, L4, L5, L6, L7, L8, L9, L10, L11, L15, L16, L17, L18, L20, L24, L26, L28, L31, L32, L35, L36, L48, L57, L59, L63, L64, L96, L97, L99, L100, L112, L122, L128, L200, L255, L256, L1000, L1024, L2000, L3000, L1000000, L1000000007, e1, e0, d2]
      · have : p' ≠ p := fun z => hv (by rw [← z]; exact hv')
        have hd := hb2 p' hp' hv' m hm
        by_cases c4 : p' < p
        · rw [if_pos c4] at hd; rw [if_pos (by omega)]; exact hd
        · rw [if_neg c4] at hd; rw [if_neg (by omega)]; exact hd
      · funext j
        unfold Gp
        rw [sN, if_neg hv]; rfl
  · obtain ⟨g1, g2⟩ := hB t ht (us_lt hI ht)
    rw [g1, g2]
    exact rp_z (fun _ => rfl)
