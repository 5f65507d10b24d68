/-! ===== one piece weighed at one place of the row ===== -/
def pcD (c j : Nat) : Prop := (c = 1 ∧ j = 1) ∨ (c = 900 ∧ j = 0) ∨ (200 ≤ c ∧ c < 232)
def I_cut (S : St) : Prop := rd S 3 4 = nI (ct S) ∧ rd S 54 7 = nI (ct S) ∧ ct S < 100
def Xw (c j : Nat) : Prop := (c = 3 ∧ (j = 2 ∨ j = 3 ∨ j = 6 ∨ j = 14 ∨ j = 15 ∨ j = 17)) ∨ (4 ≤ c ∧ c ≤ 13)
theorem Xw_pc {S a : St} (h : fr Xw S a) : ∀ c j, pcD c j → rd a c j = rd S c j := fun c j hc => h c j (by unfold pcD at hc; unfold Xw; omega)
theorem pf_n {S a : St} (h : ∀ c j, pcD c j → rd a c j = rd S c j) : nP a = nP S := by unfold nP; rw [h 900 0 (by unfold pcD; omega)]
theorem pf_1 {S a : St} (hI : I_pcs S) (h : ∀ c j, pcD c j → rd a c j = rd S c j) : rd a 1 1 = nI (nP S) := by rw [h 1 1 (by unfold pcD; omega)]; exact hI.2.1
theorem pf_p {S a : St} (hI : I_pcs S) (h : ∀ c j, pcD c j → rd a c j = rd S c j) {p : Nat} (hp : p < nP S) :
    rd a (200 + 2 * p) 0 = nI (px S p) ∧ rd a (200 + 2 * p) 1 = nI (pl S p) ∧ rd a (200 + 2 * p) 2 = nI (pv S p) ∧ rd a (200 + 2 * p) 5 = nI (lst S p) ∧ px S p < 4294967296 ∧ 1 ≤ pl S p ∧ pl S p ≤ 8 ∧ pv S p < 4 ∧ lst S p < 256 := by
  have h16 := hI.1
  obtain ⟨h1, h2, h3⟩ := hI.2.2.2 p hp
  have hx := h1.x
  have hw := h1.w
  have hle := lstK_le S p (nP S)
  obtain ⟨a1, a2, a3, -, -, a6, a7, a8, -⟩ := h1
  have hd : ∀ j, rd a (200 + 2 * p) j = rd S (200 + 2 * p) j := fun j => h _ _ (by unfold pcD; omega)
  rw [hd, hd, hd, hd]
  exact ⟨a6, a7, a8, h3, hx, a1, a2, a3, by unfold lst; omega⟩
theorem pf_t {S a : St} (hI : I_pcs S) (h : ∀ c j, pcD c j → rd a c j = rd S c j) {p i : Nat} (hp : p < nP S) (hi : i < pl S p) : rd a (200 + 2 * p + 1) i = nI (tn S p i) ∧ tn S p i < 100 ∧ tone (pb S p) (pe S p) (pl S p) i = nI (tn S p i) := by
  have h16 := hI.1
  obtain ⟨h1, h2, h3⟩ := hI.2.2.2 p hp
  obtain ⟨a1, a2, -⟩ := h1
  obtain ⟨b1, b2, -, -, -, -, -, b8⟩ := h2
  obtain ⟨t, ht, e⟩ := tone_n b1 b2 a1 a2 hi
  have e2 := (b8 i hi).2
  rw [e] at e2
  have e3 : tn S p i = t := nv_n e2 (by omega)
  rw [h _ _ (by unfold pcD; omega), e3, e]
  exact ⟨e2, ht, rfl⟩
theorem tn_lt {S : St} (hI : I_pcs S) : ∀ p i, p < nP S → i < pl S p → tn S p i < 100 := fun _ _ hp hi => (pf_t hI (fun _ _ _ => rfl) hp hi).2.1
theorem says_ok {S a : St} {p i s : Nat} (hx : rd a (200 + 2 * p) 0 = nI (px S p)) (hl : rd a (200 + 2 * p) 5 = nI (lst S p)) (h1 : px S p < 4294967296) (h2 : lst S p < 256) (hi : i < 8) (hs : s < 16) :
    f_X3_says p (nI i) (nI s) a = some (bI (decide (px S p / 16 ^ i % 16 = s) && !(tb (lst S p) i)), a) := by
  unfold f_X3_says
  rw [lt_eq, hx, hl, snd_n h1 hi, bit_n (by omega) (by omega)]
  have hm := Nat.mod_lt (px S p / 16 ^ i) (show 16 > 0 by decide)
  by_cases c1 : px S p / 16 ^ i % 16 = s
  · rw [if_pos (by rw [c1])]
    cases c2 : tb (lst S p) i
    · rw [if_pos (by decide)]; simp [c1]; rfl
    · rw [if_neg (by decide)]; simp; rfl
  · rw [if_neg (by rw [eq_n (by omega) (by omega)]; exact c1)]; simp [c1]; rfl
theorem cutsE_ok {S a : St} {p i : Nat} (h : rd a (200 + 2 * p) 1 = nI (pl S p)) (h1 : 1 ≤ pl S p) (h8 : pl S p ≤ 8) (hi : i < pl S p) : f_X3_cutsAtEnd p (nI i) a = some (nI (if i + 1 = pl S p then 0 else 1), a) := by
  unfold f_X3_cutsAtEnd
  by_cases c : i + 1 = pl S p
  · rw [if_pos c]; simp (disch := omega) only [md_n, lt_eq, bd_some, gN, gN2, le_T, le_F, lt_T, lt_F, eq_T, eq_F, cN, plus_n, mul_n, rem_n, div_n, sub_n, re_T, re_F, rl_wr, rd_wl, ne_m1, m1_ne, m1_lt, m1_le, m1_ge, m1_gt, m1_refl, ↓reduceIte, L0, L1, L2, L3, L4, L5, L6, L7, L8, L9, L10, L11, L15, L16, L17, L18, L20, L24, L26, L28, L31, L32, L35, L36, L48, L57, L59, L63, L64, L96, L97, L99, L100, L112, L122, L128, L200, L255, L256, L1000, L1024, L2000, L3000, L1000000, L1000000007, h]
  · rw [if_neg c]; simp (disch := omega) only [md_n, lt_eq, bd_some, gN, gN2, le_T, le_F, lt_T, lt_F, eq_T, eq_F, cN, plus_n, mul_n, rem_n, div_n, sub_n, re_T, re_F, rl_wr, rd_wl, ne_m1, m1_ne, m1_lt, m1_le, m1_ge, m1_gt, m1_refl, ↓reduceIte, L0, L1, L2, L3, L4, L5, L6, L7, L8, L9, L10, L11, L15, L16, L17, L18, L20, L24, L26, L28, L31, L32, L35, L36, L48, L57, L59, L63, L64, L96, L97, L99, L100, L112, L122, L128, L200, L255, L256, L1000, L1024, L2000, L3000, L1000000, L1000000007, h]
theorem cutsB_ok {a : St} {p i : Nat} (hi : i < 8) : f_X3_cutsAtBegin p (nI i) a = some (nI (if i = 0 then 0 else 1), a) := by
  unfold f_X3_cutsAtBegin
  by_cases c : i = 0
  · rw [if_pos c]; simp (disch := omega) only [md_n, lt_eq, bd_some, gN, gN2, le_T, le_F, lt_T, lt_F, eq_T, eq_F, cN, plus_n, mul_n, rem_n, div_n, sub_n, re_T, re_F, rl_wr, rd_wl, ne_m1, m1_ne, m1_lt, m1_le, m1_ge, m1_gt, m1_refl, ↓reduceIte, L0, L1, L2, L3, L4, L5, L6, L7, L8, L9, L10, L11, L15, L16, L17, L18, L20, L24, L26, L28, L31, L32, L35, L36, L48, L57, L59, L63, L64, L96, L97, L99, L100, L112, L122, L128, L200, L255, L256, L1000, L1024, L2000, L3000, L1000000, L1000000007]
  · rw [if_neg c]; simp (disch := omega) only [md_n, lt_eq, bd_some, gN, gN2, le_T, le_F, lt_T, lt_F, eq_T, eq_F, cN, plus_n, mul_n, rem_n, div_n, sub_n, re_T, re_F, rl_wr, rd_wl, ne_m1, m1_ne, m1_lt, m1_le, m1_ge, m1_gt, m1_refl, ↓reduceIte, L0, L1, L2, L3, L4, L5, L6, L7, L8, L9, L10, L11, L15, L16, L17, L18, L20, L24, L26, L28, L31, L32, L35, L36, L48, L57, L59, L63, L64, L96, L97, L99, L100, L112, L122, L128, L200, L255, L256, L1000, L1024, L2000, L3000, L1000000, L1000000007]
theorem cE_mul (S : St) (p i : Nat) : (if i + 1 = pl S p then 0 else 1) * ct S = cE S p i := by
  unfold cE; split
  · rw [Nat.zero_mul]
  · rw [Nat.one_mul]
theorem cB_mul (S : St) (i : Nat) : (if i = 0 then 0 else 1) * ct S = cB S i := by
  unfold cB; split
  · rw [Nat.zero_mul]
  · rw [Nat.one_mul]
theorem cE_lt {S : St} (h : I_cut S) (p i : Nat) : cE S p i < 100 := by
  have := h.2.2
  unfold cE; split <;> omega
theorem cB_lt {S : St} (h : I_cut S) (i : Nat) : cB S i < 100 := by
  have := h.2.2
  unfold cB; split <;> omega
def Xp (p c j : Nat) : Prop := ((c = 9 ∨ c = 10) ∧ p * 8 ≤ j ∧ j < p * 8 + 8) ∨ c = 11 ∨ c = 12
def GI (S : St) (v n : Nat) (r : Nat → Nat) (k p : Nat) (G : Nat → Pl) (i t : Nat) : Pl := fun j => G t j + sN i (fun i => if tn S p i = t then sh (cB S i) (DI S v n r (k + 1) p i) j else 0)
def Pwp (S : St) (v n : Nat) (r : Nat → Nat) (k p : Nat) (G : Nat → Pl) (a : St) (i : Nat) (b : St) : Prop :=
  fr (Xp p) a b ∧ (∀ m, m < i → rp (rd b 9 (p * 8 + m)) (rd b 10 (p * 8 + m)) (DI S v n r (k + 1) p m) (300 * k + 100)) ∧ (∀ m, i ≤ m → m < pl S p → rp (rd b 9 (p * 8 + m)) (rd b 10 (p * 8 + m)) (DI S v n r k p m) (300 * k)) ∧ ∀ t, us S v t = true → rp (rd b 11 t) (rd b 12 t) (GI S v n r k p G i t) (300 * k + 200)
theorem Pwp.step {S : St} {v n : Nat} {r : Nat → Nat} {k p : Nat} {G : Nat → Pl} {a b b4 : St} {i : Nat} (hi : i < 8) (h : Pwp S v n r k p G a i b) (hf : fr (fun c j => (c = 9 ∨ c = 10) ∧ j = p * 8 + i ∨ (c = 11 ∨ c = 12) ∧ j = tn S p i) b b4)
    (h1 : rp (rd b4 9 (p * 8 + i)) (rd b4 10 (p * 8 + i)) (DI S v n r (k + 1) p i) (300 * k + 100)) (h2 : rp (rd b4 11 (tn S p i)) (rd b4 12 (tn S p i)) (fun j => GI S v n r k p G i (tn S p i) j + sh (cB S i) (DI S v n r (k + 1) p i) j) (300 * k + 200)) : Pwp S v n r k p G a (i + 1) b4 := by
  obtain ⟨a1, a2, a3, a4⟩ := h
  refine ⟨a1.trans (hf.mono (fun c j hc => by unfold Xp; omega)), fun m hm => ?_, fun m hm hm2 => ?_, fun t ht => ?_⟩
  · by_cases c : m = i
    · subst c; exact h1
    · rw [hf 9 _ (by omega), hf 10 _ (by omega)]; exact a2 m (by omega)
  · rw [hf 9 _ (by omega), hf 10 _ (by omega)]; exact a3 m (by omega) hm2
  · by_cases c : tn S p i = t
    · subst c
      refine h2.to ?_
      funext j
      unfold GI
      rw [sN, if_pos rfl, Nat.add_assoc]
    · rw [hf 11 t (by omega), hf 12 t (by omega)]
      refine (a4 t ht).to ?_
      funext j
      unfold GI
      rw [sN, if_neg c]; rfl
