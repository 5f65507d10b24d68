/-! ===== each call that is spoken says a sound ===== -/
def sayP (S : St) (n q : Nat) (a : Ast) : Ast := (fun c => if c < n ∧ a.st c = 1 ∧ pa S c < q then sayS a c else a.st c, fun c => if c < n ∧ a.st c = 1 ∧ pa S c < q then a.sd c + 1 else a.sd c, a.bg, a.ts, a.en)
def sayQ (n q : Nat) (a : Ast) : Ast := (fun c => if c < n ∧ a.st c = 1 ∧ c < q then sayS a c else a.st c, fun c => if c < n ∧ a.st c = 1 ∧ c < q then a.sd c + 1 else a.sd c, a.bg, a.ts, a.en)
theorem incr_lt {L : List Nat} (h : incr L) {i j : Nat} (hij : i < j) (hj : j < L.length) : L.getD i 0 < L.getD j 0 := U_inj h.2.2.2 hij hj
theorem incr_le {L : List Nat} (h : incr L) {i j : Nat} (hij : i ≤ j) (hj : j < L.length) : L.getD i 0 ≤ L.getD j 0 := by
  by_cases c : i = j
  · rw [c]; exact Nat.le_refl _
  · exact Nat.le_of_lt (incr_lt h (by omega) hj)
theorem contains_at {L : List Nat} {x : Nat} : L.contains x = true ↔ ∃ i, i < L.length ∧ L.getD i 0 = x := by
  rw [List.contains_iff_mem]
  constructor
  · intro h
    obtain ⟨i, hi, e⟩ := List.getElem_of_mem h
    exact ⟨i, hi, by rw [List.getD_eq_getElem?_getD, List.getElem?_eq_getElem hi]; exact e⟩
  · rintro ⟨i, hi, rfl⟩
    exact mem_at hi
/-- what the next sound is, by the word that is being said -/
theorem sayS_cases {A : Ast} {c w : Nat} (h : incr (A.en c)) (hw : w < (A.en c).length) (h1 : ∀ i, i < w → (A.en c).getD i 0 ≤ A.sd c) (h2 : A.sd c < (A.en c).getD w 0) :
    (A.sd c + 1 < (A.en c).getD w 0 → sayS A c = 1) ∧ (A.sd c + 1 = (A.en c).getD w 0 → sayS A c = if w + 1 = (A.en c).length then 2 else if A.ts c = true then 3 else 1) := by
  have hne : 0 < (A.en c).length := by omega
  constructor
  · intro h3
    unfold sayS
    have hl : A.sd c + 1 ≠ lastE (A.en c) := by
      have := incr_le h (show w ≤ (A.en c).length - 1 by omega) (by omega)
      unfold lastE; omega
    have hc : (A.en c).contains (A.sd c + 1) = false := by
      rw [Bool.eq_false_iff]
      intro z
      obtain ⟨i, hi, e⟩ := contains_at.mp z
      by_cases k : i < w
      · have := h1 i k; omega
      · have := incr_le h (show w ≤ i by omega) hi; omega
    rw [if_neg hl, hc, Bool.false_and, if_neg (by decide)]
  · intro h3
    have hc : (A.en c).contains (A.sd c + 1) = true := contains_at.mpr ⟨w, hw, h3.symm⟩
    unfold sayS
    rw [hc, Bool.true_and]
    by_cases k : w + 1 = (A.en c).length
    · rw [if_pos k, if_pos]
      unfold lastE
      rw [show (A.en c).length - 1 = w by omega]; exact h3
    · have : A.sd c + 1 ≠ lastE (A.en c) := by
        have := incr_lt h (show w < (A.en c).length - 1 by omega) (by omega)
        unfold lastE; omega
      rw [if_neg k, if_neg this]
theorem sayA_wf {S : St} {n : Nat} {A : Ast} (hw : wf S n A) : wf S n (sayA n A) := by
  obtain ⟨h1, h2⟩ := hw
  have hst : ∀ c, c < n → (sayA n A).st c = 1 → A.st c = 1 := fun c hc z => by
    have z' : (if c < n ∧ A.st c = 1 then sayS A c else A.st c) = 1 := z
    by_cases k : A.st c = 1
    · exact k
    · rw [if_neg (fun y => k y.2)] at z'; exact z'
  refine ⟨fun c hc => ?_, fun c d hc hd e1 e2 e3 => h2 c d hc hd (hst c hc e1) (hst d hd e2) e3⟩
  obtain ⟨k1, k2, k3, k4⟩ := h1 c hc
  show (if c < n ∧ A.st c = 1 then sayS A c else A.st c) ≤ 5 ∧ ((if c < n ∧ A.st c = 1 then sayS A c else A.st c) = 0 → (if c < n ∧ A.st c = 1 then A.sd c + 1 else A.sd c) = 0) ∧ (if c < n ∧ A.st c = 1 then A.sd c + 1 else A.sd c) ≤ 200 ∧ ((if c < n ∧ A.st c = 1 then sayS A c else A.st c) = 1 → incr (A.en c) ∧ (if c < n ∧ A.st c = 1 then A.sd c + 1 else A.sd c) < lastE (A.en c))
  by_cases k : c < n ∧ A.st c = 1
  · rw [if_pos k, if_pos k]
    obtain ⟨i1, i2⟩ := k4 k.2
    have hl : lastE (A.en c) ≤ 200 := i1.2.2.1 _ (by have := i1.1; have : 0 < (A.en c).length := List.length_pos_iff.mpr this; omega)
    have hs : sayS A c = 2 ∨ sayS A c = 3 ∨ (sayS A c = 1 ∧ A.sd c + 1 ≠ lastE (A.en c)) := by
      unfold sayS
      by_cases y : A.sd c + 1 = lastE (A.en c)
      · left; rw [if_pos y]
      · rw [if_neg y]
        split
        · right; left; rfl
        · right; right; exact ⟨rfl, y⟩
    rcases hs with e | e | ⟨e, e2⟩
    · rw [e]; exact ⟨by omega, fun z => by omega, by omega, fun z => by omega⟩
    · rw [e]; exact ⟨by omega, fun z => by omega, by omega, fun z => by omega⟩
    · rw [e]; exact ⟨by omega, fun z => by omega, by omega, fun _ => ⟨i1, by omega⟩⟩
  · rw [if_neg k, if_neg k]
    exact ⟨k1, k2, k3, k4⟩
theorem saySound_ok {b : St} {A : Ast} {c w : Nat} (hc : c < 24) (h : incr (A.en c)) (hw : w < (A.en c).length) (h1 : ∀ i, i < w → (A.en c).getD i 0 ≤ A.sd c) (h2 : A.sd c < (A.en c).getD w 0) (e6 : rd b (300 + 2 * c) 6 = nI 1) (e7 : rd b (300 + 2 * c) 7 = nI (A.sd c)) (e9 : rd b (300 + 2 * c) 9 = bI (A.ts c)) (e11 : rd b (300 + 2 * c) 11 = nI (A.en c).length) (e12 : rd b (300 + 2 * c) 12 = nI w) (ee : ∀ i, i < (A.en c).length → rd b (300 + 2 * c + 1) i = nI ((A.en c).getD i 0)) :
    ∃ b', f_X0_saySound c b = some ((), b') ∧ rd b' (300 + 2 * c) 6 = nI (sayS A c) ∧ rd b' (300 + 2 * c) 7 = nI (A.sd c + 1) ∧ (sayS A c = 1 → ∃ w', w' < (A.en c).length ∧ rd b' (300 + 2 * c) 12 = nI w' ∧ (∀ i, i < w' → (A.en c).getD i 0 ≤ A.sd c + 1) ∧ A.sd c + 1 < (A.en c).getD w' 0) ∧ fr (fun k j => k = 300 + 2 * c ∧ (j = 6 ∨ j = 7 ∨ j = 12)) b b' := by
  obtain ⟨s1, s2⟩ := sayS_cases h hw h1 h2
  have hlen := h.2.1
  have hb := h.2.2.1 w hw
  have eew := ee w hw
  unfold f_X0_saySound
  by_cases d : A.sd c + 1 < (A.en c).getD w 0
  · refine ⟨wr b (300 + 2 * c) 7 (nI (A.sd c + 1)), ?_, ?_, rw_eq, fun _ => ⟨w, hw, ?_, fun i hi => ?_, d⟩, (fr.refl _ _).wr (by omega)⟩
    · simp (disch := omega) only [md_n, lt_eq, bd_some, gN, gN2, le_T, le_F, lt_T, lt_F, eq_T, eq_F, cN, plus_n, mul_n, rem_n, div_n, sub_n, re_T, re_F, rl_wr, rd_wl, ne_m1, m1_ne, m1_lt, m1_le, m1_ge, m1_gt, m1_refl, ↓reduceIte, L0, L1, L2, L3, L4, L5, L6, L7, L8, L9, L10, L11, L15, L16, L17, L18, L20, L24, L26, L28, L31, L32, L35, L36, L48, L57, L59, L63, L64, L96, L97, L99, L100, L112, L122, L128, L200, L255, L256, L1000, L1024, L2000, L3000, L1000000, L1000000007, e7, e11, e12, eew]
    · rw [s1 d, rw_ne (by omega)]; exact e6
    · rw [rw_ne (by omega)]; exact e12
    · have := h1 i hi; omega
  · have d2 : A.sd c + 1 = (A.en c).getD w 0 := by omega
    have s2 := s2 d2
    generalize hb2 : wr (wr b (300 + 2 * c) 7 (nI (A.sd c + 1))) (300 + 2 * c) 12 (nI (w + 1)) = b2
    have r7 : rd b2 (300 + 2 * c) 7 = nI (A.sd c + 1) := by rw [← hb2, rw_ne (by omega), rw_eq]
    have r12 : rd b2 (300 + 2 * c) 12 = nI (w + 1) := by rw [← hb2, rw_eq]
    have r6 : rd b2 (300 + 2 * c) 6 = nI 1 := by rw [← hb2, rw_ne (by omega), rw_ne (by omega)]; exact e6
    have hfr : fr (fun k j => k = 300 + 2 * c ∧ (j = 6 ∨ j = 7 ∨ j = 12)) b b2 := by rw [← hb2]; exact ((fr.refl _ _).wr (by omega)).wr (by omega)
    by_cases k : w + 1 = (A.en c).length
    · rw [if_pos k] at s2
      refine ⟨wr b2 (300 + 2 * c) 6 (nI 2), ?_, by rw [s2, rw_eq], by rw [rw_ne (by omega)]; exact r7, fun z => by omega, hfr.wr (by omega)⟩
      simp (disch := omega) only [md_n, lt_eq, bd_some, gN, gN2, le_T, le_F, lt_T, lt_F, eq_T, eq_F, cN, plus_n, mul_n, rem_n, div_n, sub_n, re_T, re_F, rl_wr, rd_wl, ne_m1, m1_ne, m1_lt, m1_le, m1_ge, m1_gt, m1_refl, ↓reduceIte, L0, L1, L2, L3, L4, L5, L6, L7, L8, L9, L10, L11, L15, L16, L17, L18, L20, L24, L26, L28, L31, L32, L35, L36, L48, L57, L59, L63, L64, L96, L97, L99, L100, L112, L122, L128, L200, L255, L256, L1000, L1024, L2000, L3000, L1000000, L1000000007, e7, e11, e12, eew, hb2]
    · rw [if_neg k] at s2
      cases ht : A.ts c
      · rw [ht] at e9 s2
        rw [if_neg (by decide)] at s2
        have e9' : rd b (300 + 2 * c) 9 = nI 0 := e9
        refine ⟨b2, ?_, by rw [s2]; exact r6, r7, fun _ => ⟨w + 1, by omega, r12, fun i hi => ?_, ?_⟩, hfr⟩
        · simp (disch := omega) only [md_n, lt_eq, bd_some, gN, gN2, le_T, le_F, lt_T, lt_F, eq_T, eq_F, cN, plus_n, mul_n, rem_n, div_n, sub_n, re_T, re_F, rl_wr, rd_wl, ne_m1, m1_ne, m1_lt, m1_le, m1_ge, m1_gt, m1_refl, ↓reduceIte, L0, L1, L2, L3, L4, L5, L6, L7, L8, L9, L10, L11, L15, L16, L17, L18, L20, L24, L26, L28, L31, L32, L35, L36, L48, L57, L59, L63, L64, L96, L97, L99, L100, L112, L122, L128, L200, L255, L256, L1000, L1024, L2000, L3000, L1000000, L1000000007, e7, e11, e12, eew, e9', hb2]
        · by_cases y : i = w
          · rw [y, ← d2]; exact Nat.le_refl _
          · have := h1 i (by omega); omega
        · have := incr_lt h (show w < w + 1 by omega) (show w + 1 < (A.en c).length by omega); omega
      · rw [ht] at e9 s2
        rw [if_pos rfl] at s2
        have e9' : rd b (300 + 2 * c) 9 = nI 1 := e9
        refine ⟨wr b2 (300 + 2 * c) 6 (nI 3), ?_, by rw [s2, rw_eq], by rw [rw_ne (by omega)]; exact r7, fun z => by omega, hfr.wr (by omega)⟩
        simp (disch := omega) only [md_n, lt_eq, bd_some, gN, gN2, le_T, le_F, lt_T, lt_F, eq_T, eq_F, cN, plus_n, mul_n, rem_n, div_n, sub_n, re_T, re_F, rl_wr, rd_wl, ne_m1, m1_ne, m1_lt, m1_le, m1_ge, m1_gt, m1_refl, ↓reduceIte, L0, L1, L2, L3, L4, L5, L6, L7, L8, L9, L10, L11, L15, L16, L17, L18, L20, L24, L26, L28, L31, L32, L35, L36, L48, L57, L59, L63, L64, L96, L97, L99, L100, L112, L122, L128, L200, L255, L256, L1000, L1024, L2000, L3000, L1000000, L1000000007, e7, e11, e12, eew, e9', hb2]
