/-! ===== sums, rows of counts by jar ===== -/
def sN : Nat → (Nat → Nat) → Nat
  | 0, _ => 0
  | n + 1, f => sN n f + f n
theorem sN_congr {n : Nat} {f g : Nat → Nat} (h : ∀ i, i < n → f i = g i) : sN n f = sN n g := by
  induction n with
  | zero => rfl
  | succ n ih => rw [sN, sN, ih (fun i hi => h i (by omega)), h n (by omega)]
theorem sN_zero {n : Nat} {f : Nat → Nat} (h : ∀ i, i < n → f i = 0) : sN n f = 0 := by
  induction n with
  | zero => rfl
  | succ n ih => rw [sN, ih (fun i hi => h i (by omega)), h n (by omega)]
theorem sN_z {n : Nat} {f : Nat → Nat} (h : sN n f = 0) : ∀ i, i < n → f i = 0 := by
  induction n with
  | zero => intro i hi; omega
  | succ n ih =>
    rw [sN] at h
    intro i hi
    by_cases c : i = n
    · rw [c]; omega
    · exact ih (by omega) i (by omega)
theorem sN_ne {n : Nat} {f : Nat → Nat} (h : sN n f ≠ 0) : ∃ i, i < n ∧ f i ≠ 0 := by
  apply Classical.byContradiction
  intro c
  exact h (sN_zero (fun i hi => Classical.byContradiction fun z => c ⟨i, hi, z⟩))
theorem sN_add (n : Nat) (f g : Nat → Nat) : sN n (fun i => f i + g i) = sN n f + sN n g := by
  induction n with
  | zero => rfl
  | succ n ih => simp only [sN, ih]; omega
theorem sN_single {n b : Nat} (f : Nat → Nat) (h : b < n) : sN n (fun s => if s = b then f s else 0) = f b := by
  induction n with
  | zero => omega
  | succ n ih =>
    rw [sN]
    by_cases c : b = n
    · subst c
      rw [sN_zero (fun i hi => if_neg (by omega)), if_pos rfl, Nat.zero_add]
    · rw [ih (by omega), if_neg (by omega), Nat.add_zero]
theorem sN_comm (n m : Nat) (f : Nat → Nat → Nat) : sN n (fun i => sN m (fun j => f i j)) = sN m (fun j => sN n (fun i => f i j)) := by
  induction n with
  | zero => exact (sN_zero (fun _ _ => rfl)).symm
  | succ n ih => simp only [sN, ih, sN_add]
theorem sN_split (a c : Nat) (f : Nat → Nat) : sN (a + c) f = sN a f + sN c (fun i => f (a + i)) := by
  induction c with
  | zero => rfl
  | succ c ih => rw [← Nat.add_assoc, sN, ih, sN]; omega
theorem sN_mul (a b : Nat) (f : Nat → Nat) : sN (a * b) f = sN a (fun i => sN b (fun j => f (i * b + j))) := by
  induction a with
  | zero => rw [Nat.zero_mul]; rfl
  | succ a ih => rw [Nat.succ_mul, sN_split, ih, sN]
theorem sN_ext0 {n m : Nat} {f : Nat → Nat} (h : n ≤ m) (h0 : ∀ i, n ≤ i → i < m → f i = 0) : sN m f = sN n f := by
  obtain ⟨c, rfl⟩ : ∃ c, m = n + c := ⟨m - n, by omega⟩
  rw [sN_split, sN_zero (n := c) (fun i hi => h0 _ (by omega) (by omega)), Nat.add_zero]
theorem sN_if {n : Nat} (c : Prop) [Decidable c] (f : Nat → Nat) : sN n (fun i => if c then f i else 0) = if c then sN n f else 0 := by
  by_cases h : c
  · simp only [h, if_true]
  · simp only [h, if_false]; exact sN_zero (fun _ _ => rfl)
abbrev Pl : Type := Nat → Nat
/-- moved up by k -/
def sh (k : Nat) (P : Pl) : Pl := fun j => if k ≤ j then P (j - k) else 0
def one : Pl := fun j => if j = 0 then 1 else 0
theorem sh_0 (P : Pl) : sh 0 P = P := by funext j; simp [sh]
theorem sh_sh (a b : Nat) (P : Pl) : sh a (sh b P) = sh (a + b) P := by
  funext j
  unfold sh
  by_cases h : a + b ≤ j
  · rw [if_pos (show a ≤ j by omega), if_pos (show b ≤ j - a by omega), if_pos h, Nat.sub_sub]
  · by_cases h2 : a ≤ j
    · rw [if_pos h2, if_neg (by omega), if_neg h]
    · rw [if_neg h2, if_neg h]
theorem sh_sum (k n : Nat) (f : Nat → Pl) (j : Nat) : sh k (fun j => sN n (fun i => f i j)) j = sN n (fun i => sh k (f i) j) := by
  unfold sh
  rw [sN_if]
theorem sh_add (k : Nat) (P Q : Pl) : sh k (fun j => P j + Q j) = fun j => sh k P j + sh k Q j := by
  funext j
  unfold sh
  split <;> rfl
theorem sh_zero (k : Nat) {P : Pl} (h : ∀ j, P j = 0) : ∀ j, sh k P j = 0 := by
  intro j
  unfold sh
  split
  · exact h _
  · rfl
/-- j is the least jar -/
def isL (P : Pl) (j : Nat) : Prop := P j ≠ 0 ∧ ∀ k, k < j → P k = 0
theorem isL.mv {P : Pl} {j : Nat} (k : Nat) (h : isL P j) : isL (sh k P) (j + k) := by
  refine ⟨?_, fun i hi => ?_⟩
  · unfold sh; rw [if_pos (by omega), Nat.add_sub_cancel]; exact h.1
  · unfold sh
    split
    · exact h.2 _ (by omega)
    · rfl
theorem isL_or (P : Pl) : (∀ j, P j = 0) ∨ ∃ j, isL P j := by
  by_cases h : ∃ j, P j ≠ 0
  · right
    obtain ⟨j, hj⟩ := h
    induction j using Nat.strongRecOn with
    | _ j ih =>
      by_cases c : ∃ k, k < j ∧ P k ≠ 0
      · obtain ⟨k, hk, h⟩ := c
        exact ih k hk h
      · exact ⟨j, hj, fun k hk => Classical.byContradiction fun z => c ⟨k, hk, z⟩⟩
  · left
    intro j
    exact Classical.byContradiction fun z => h ⟨j, z⟩
theorem isL.uniq {P : Pl} {i j : Nat} (h : isL P i) (h' : isL P j) : i = j := by
  rcases Nat.lt_trichotomy i j with c | c | c
  · exact absurd (h'.2 i c) h.1
  · exact c
  · exact absurd (h.2 j c) h'.1
def rp (J w : Int32) (P : Pl) (b : Nat) : Prop := ((∀ k, P k = 0) ∧ J = nI 1000000 ∧ w = nI 0) ∨ ∃ j, j ≤ b ∧ isL P j ∧ J = nI j ∧ w = nI (P j % 1000000007)
def rq (J w : Int32) (P : Pl) (b : Nat) : Prop := ((∀ k, P k = 0) ∧ ∃ f, 1000000 ≤ f ∧ f < 2000000 ∧ J = nI f) ∨ ∃ j, j ≤ b ∧ isL P j ∧ J = nI j ∧ w = nI (P j % 1000000007)
theorem rp.q {J w : Int32} {P : Pl} {b : Nat} (h : rp J w P b) : rq J w P b := by
  rcases h with ⟨h1, h2, h3⟩ | h
  · exact Or.inl ⟨h1, 1000000, by omega, by omega, h2⟩
  · exact Or.inr h
theorem rp.mv {J w : Int32} {P : Pl} {b : Nat} (h : rp J w P b) (k : Nat) (hk : k < 1000000) : rq (J + nI k) w (sh k P) (b + k) := by
  rcases h with ⟨h1, h2, h3⟩ | ⟨j, h1, h2, h3, h4⟩
  · exact Or.inl ⟨sh_zero k h1, 1000000 + k, by omega, by omega, by rw [h2, plus_n]⟩
  · refine Or.inr ⟨j + k, by omega, h2.mv k, by rw [h3, plus_n], ?_⟩
    rw [h4]
    unfold sh
    rw [if_pos (by omega), Nat.add_sub_cancel]
theorem rp.mono {J w : Int32} {P : Pl} {b c : Nat} (h : rp J w P b) (hc : b ≤ c) : rp J w P c := by
  rcases h with h | ⟨j, h1, h2⟩
  · exact Or.inl h
  · exact Or.inr ⟨j, by omega, h2⟩
theorem rq.mono {J w : Int32} {P : Pl} {b c : Nat} (h : rq J w P b) (hc : b ≤ c) : rq J w P c := by
  rcases h with h | ⟨j, h1, h2⟩
  · exact Or.inl h
  · exact Or.inr ⟨j, by omega, h2⟩
theorem rp_z {P : Pl} {b : Nat} (h : ∀ k, P k = 0) : rp (nI 1000000) (nI 0) P b := Or.inl ⟨h, rfl, rfl⟩
theorem rp_one : rp (nI 0) (nI 1) one 0 := by
  refine Or.inr ⟨0, Nat.le_refl _, ⟨by unfold one; rw [if_pos rfl]; exact Nat.one_ne_zero, fun k hk => absurd hk (Nat.not_lt_zero k)⟩, rfl, ?_⟩
  unfold one
  rw [if_pos rfl, Nat.mod_eq_of_lt (by omega)]
theorem rp.to {J w : Int32} {P Q : Pl} {b : Nat} (h : rp J w P b) (e : P = Q) : rp J w Q b := e ▸ h
theorem isL_add_l {P Q : Pl} {i j : Nat} (h : isL P i) (h' : isL Q j) (c : i < j) : isL (fun k => P k + Q k) i ∧ (P i + Q i) = P i := by
  have h0 := h'.2 i c
  have h1 := h.1
  refine ⟨⟨by show P i + Q i ≠ 0; omega, fun k hk => ?_⟩, by omega⟩
  show P k + Q k = 0
  rw [h.2 k hk, h'.2 k (by omega)]
theorem offer_ok {S : St} {A B k N b : Nat} {J w : Int32} {P Q : Pl} (hA : alen A = N) (hB : alen B = N) (hk : k < N) (hN : N < 2147483648) (hne : A ≠ B) (h : rp (rd S A k) (rd S B k) P b) (hq : rq J w Q b) (hb : b < 1000000) :
    ∃ S', f_X6_offer A B (nI k) J w S = some ((), S') ∧ rp (rd S' A k) (rd S' B k) (fun j => P j + Q j) b ∧ fr (fun c j => (c = A ∨ c = B) ∧ j = k) S S' := by
  have hX1 : ∀ {S1 : St} {v : Int32}, fr (fun c j => (c = A ∨ c = B) ∧ j = k) S S1 → fr (fun c j => (c = A ∨ c = B) ∧ j = k) S (wr S1 A k v) := fun h => h.wr ⟨Or.inl rfl, rfl⟩
  have hX2 : ∀ {S1 : St} {v : Int32}, fr (fun c j => (c = A ∨ c = B) ∧ j = k) S S1 → fr (fun c j => (c = A ∨ c = B) ∧ j = k) S (wr S1 B k v) := fun h => h.wr ⟨Or.inr rfl, rfl⟩
  unfold f_X6_offer
  rw [hA, hB]
  rcases hq with ⟨q1, f, q2, q3, rfl⟩ | ⟨i, q1, q2, rfl, rfl⟩
  · refine ⟨S, by simp (disch := omega) only [md_n, lt_eq, bd_some, gN, gN2, le_T, le_F, lt_T, lt_F, eq_T, eq_F, cN, plus_n, mul_n, rem_n, div_n, sub_n, re_T, re_F, rl_wr, rd_wl, ne_m1, m1_ne, m1_lt, m1_le, m1_ge, m1_gt, m1_refl, ↓reduceIte, L0, L1, L2, L3, L4, L5, L6, L7, L8, L9, L10, L11, L15, L16, L17, L18, L20, L24, L26, L28, L31, L32, L35, L36, L48, L57, L59, L63, L64, L96, L97, L99, L100, L112, L122, L128, L200, L255, L256, L1000, L1024, L2000, L3000, L1000000, L1000000007], ?_, fr.refl _ _⟩
    rw [show (fun j => P j + Q j) = P by funext j; rw [q1 j, Nat.add_zero]]
    exact h
  · have hm := Nat.mod_lt (Q i) (show 1000000007 > 0 by decide)
    rcases h with ⟨p1, p2, p3⟩ | ⟨j, p1, p2, p3, p4⟩
    · refine ⟨wr (wr S A k (nI i)) B k (nI (Q i % 1000000007)), by simp (disch := omega) only [md_n, lt_eq, bd_some, gN, gN2, le_T, le_F, lt_T, lt_F, eq_T, eq_F, cN, plus_n, mul_n, rem_n, div_n, sub_n, re_T, re_F, rl_wr, rd_wl, ne_m1, m1_ne, m1_lt, m1_le, m1_ge, m1_gt, m1_refl, ↓reduceIte, L0, L1, L2, L3, L4, L5, L6, L7, L8, L9, L10, L11, L15, L16, L17, L18, L20, L24, L26, L28, L31, L32, L35, L36, L48, L57, L59, L63, L64, L96, L97, L99, L100, L112, L122, L128, L200, L255, L256, L1000, L1024, L2000, L3000, L1000000, L1000000007, p2], ?_, hX2 (hX1 (fr.refl _ _))⟩
      rw [show (fun j => P j + Q j) = Q by funext j; rw [p1 j, Nat.zero_add]]
      exact Or.inr ⟨i, q1, q2, by rw [rw_ne (Or.inl hne), rw_eq], rw_eq⟩
    · have hm2 := Nat.mod_lt (P j) (show 1000000007 > 0 by decide)
      rcases Nat.lt_trichotomy i j with c | c | c
      · refine ⟨wr (wr S A k (nI i)) B k (nI (Q i % 1000000007)), by simp (disch := omega) only [md_n, lt_eq, bd_some, gN, gN2, le_T, le_F, lt_T, lt_F, eq_T, eq_F, cN, plus_n, mul_n, rem_n, div_n, sub_n, re_T, re_F, rl_wr, rd_wl, ne_m1, m1_ne, m1_lt, m1_le, m1_ge, m1_gt, m1_refl, ↓reduceIte, L0, L1, L2, L3, L4, L5, L6, L7, L8, L9, L10, L11, L15, L16, L17, L18, L20, L24, L26, L28, L31, L32, L35, L36, L48, L57, L59, L63, L64, L96, L97, L99, L100, L112, L122, L128, L200, L255, L256, L1000, L1024, L2000, L3000, L1000000, L1000000007, p3], ?_, hX2 (hX1 (fr.refl _ _))⟩
        obtain ⟨a1, a2⟩ := isL_add_l q2 p2 c
        rw [show (fun j => P j + Q j) = fun j => Q j + P j by funext j; exact Nat.add_comm _ _]
        exact Or.inr ⟨i, q1, a1, by rw [rw_ne (Or.inl hne), rw_eq], by rw [rw_eq]; show _ = nI ((Q i + P i) % _); rw [a2]⟩
      · subst c
        refine ⟨wr S B k (nI ((P i + Q i) % 1000000007)), ?_, ?_, hX2 (fr.refl _ _)⟩
        · rw [Nat.add_mod]
          simp (disch := omega) only [md_n, lt_eq, bd_some, gN, gN2, le_T, le_F, lt_T, lt_F, eq_T, eq_F, cN, plus_n, mul_n, rem_n, div_n, sub_n, re_T, re_F, rl_wr, rd_wl, ne_m1, m1_ne, m1_lt, m1_le, m1_ge, m1_gt, m1_refl, ↓reduceIte, L0, L1, L2, L3, L4, L5, L6, L7, L8, L9, L10, L11, L15, L16, L17, L18, L20, L24, L26, L28, L31, L32, L35, L36, L48, L57, L59, L63, L64, L96, L97, L99, L100, L112, L122, L128, L200, L255, L256, L1000, L1024, L2000, L3000, L1000000, L1000000007, p3, p4]
        · refine Or.inr ⟨i, q1, ⟨?_, fun k hk => ?_⟩, by rw [rw_ne (Or.inl hne), p3], rw_eq⟩
          · have := p2.1; show P i + Q i ≠ 0; omega
          · show P k + Q k = 0; rw [p2.2 k hk, q2.2 k hk]
      · refine ⟨S, by simp (disch := omega) only [md_n, lt_eq, bd_some, gN, gN2, le_T, le_F, lt_T, lt_F, eq_T, eq_F, cN, plus_n, mul_n, rem_n, div_n, sub_n, re_T, re_F, rl_wr, rd_wl, ne_m1, m1_ne, m1_lt, m1_le, m1_ge, m1_gt, m1_refl, ↓reduceIte, L0, L1, L2, L3, L4, L5, L6, L7, L8, L9, L10, L11, L15, L16, L17, L18, L20, L24, L26, L28, L31, L32, L35, L36, L48, L57, L59, L63, L64, L96, L97, L99, L100, L112, L122, L128, L200, L255, L256, L1000, L1024, L2000, L3000, L1000000, L1000000007, p3], ?_, fr.refl _ _⟩
        obtain ⟨a1, a2⟩ := isL_add_l p2 q2 c
        exact Or.inr ⟨j, p1, a1, p3, by show _ = nI ((P j + Q j) % _); rw [a2, p4]⟩
