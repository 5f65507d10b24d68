/-! ===== rows of the text: what they are ===== -/
abbrev Rw : Type := Nat × Nat × List Nat
def num (B : Nat → Nat) (N p : Nat) : Option Nat := if tK B N p = 2 ∧ tE B N p - tB B N p ≤ 2 then some (nval B (tB B N p) (tE B N p - tB B N p)) else none
def numB (B : Nat → Nat) (N p b : Nat) : Option Nat := match num B N p with
  | none => none
  | some v => if v < b then some v else none
def term (B : Nat → Nat) (N p : Nat) : Bool := decide (tK B N p = 0) || (decide (tK B N p = 3) && decide (B (tB B N p) = 59))
def hash (B : Nat → Nat) (N p : Nat) : Bool := decide (tK B N p = 3) && decide (B (tB B N p) = 35)
def fin (B : Nat → Nat) (N : Nat) (row : Rw) (p : Nat) : Nat ⊕ (Rw × Nat) := if term B N p = true then .inr (row, p) else .inl (tB B N p)
def ltrs (B : Nat → Nat) (b : Nat) : Nat → List Nat
  | 0 => []
  | k + 1 => ltrs B b k ++ [B (b + k) - 97]
def sndS (B : Nat → Nat) (N p : Nat) : Option (List Nat) := if tK B N p = 1 ∧ tE B N p - tB B N p ≤ 8 ∧ ∀ i, i < tE B N p - tB B N p → B (tB B N p + i) ≤ 112 then some (ltrs B (tB B N p) (tE B N p - tB B N p)) else none
def prt (B : Nat → Nat) (N p : Nat) : Option Nat := if hash B N p = true then some 100 else numB B N p 32
def partsT (B : Nat → Nat) (N : Nat) : Nat → Nat → Nat ⊕ (List Nat × Nat)
  | 0, p => .inl (tB B N p)
  | r + 1, p => match prt B N p with
    | none => .inl (tB B N p)
    | some x => if term B N (tE B N p) = true then .inr ([x], tE B N p) else match partsT B N r (tE B N p) with
      | .inl f => .inl f
      | .inr (l, q) => .inr (x :: l, q)
def two (B : Nat → Nat) (N k p : Nat) : Nat ⊕ (Rw × Nat) := match numB B N p 6 with
  | none => .inl (tB B N p)
  | some a => match numB B N (tE B N p) 6 with
    | none => .inl (tB B N (tE B N p))
    | some b => if a = b then .inl (tB B N (tE B N p)) else fin B N (k, a, [b]) (tE B N (tE B N p))
def rowW (B : Nat → Nat) (N p : Nat) : Nat ⊕ (Rw × Nat) := match numB B N p 32 with
    | none => .inl (tB B N p)
    | some a => if wIs B N (tE B N p) 1 = true then (match sndS B N (tE B N (tE B N p)) with
      | none => .inl (tB B N (tE B N (tE B N p)))
      | some l => fin B N (0, a, l) (tE B N (tE B N (tE B N p)))) else .inl (tB B N (tE B N p))
def rowL (B : Nat → Nat) (N p : Nat) : Nat ⊕ (Rw × Nat) := match numB B N p 8 with
    | none => .inl (tB B N p)
    | some a => if wIs B N (tE B N p) 1 = true then (match partsT B N 8 (tE B N (tE B N p)) with
      | .inl f => .inl f
      | .inr (l, q) => .inr ((1, a, l), q)) else .inl (tB B N (tE B N p))
def rowU (B : Nat → Nat) (N p : Nat) : Nat ⊕ (Rw × Nat) := match numB B N p 100 with
    | none => .inl (tB B N p)
    | some a => fin B N (2, a, []) (tE B N p)
def rowT (B : Nat → Nat) (N p : Nat) : Nat ⊕ (Rw × Nat) :=
  if wIs B N p 0 = true then rowW B N (tE B N p)
  else if wIs B N p 2 = true then rowL B N (tE B N p)
  else if wIs B N p 3 = true then rowU B N (tE B N p)
  else if wIs B N p 4 = true then two B N 3 (tE B N p)
  else if wIs B N p 5 = true then two B N 4 (tE B N p)
  else .inl (tB B N p)
theorem num_le {B : Nat → Nat} {N p v : Nat} (hp : p ≤ N) (h : num B N p = some v) : v ≤ 99 := by
  obtain ⟨y1, y2, y3, y4, y5, y6, y7, y8, y9, y10⟩ := tok_facts B hp
  unfold num at h
  split at h
  · next c =>
    obtain ⟨y11, y12⟩ := y10 (Or.inr c.1)
    rw [← Option.some.inj h]
    apply nval2 c.2
    intro i hi
    have := y12 (tB B N p + i) (by omega) (by omega)
    rw [c.1] at this
    have := kd_cases (B (tB B N p + i))
    omega
  · cases h
theorem numB_some {B : Nat → Nat} {N p b v : Nat} : numB B N p b = some v ↔ num B N p = some v ∧ v < b := by
  unfold numB
  cases hn : num B N p with
  | none => simp
  | some w =>
    show (if w < b then some w else none) = some v ↔ some w = some v ∧ v < b
    by_cases c : w < b
    · rw [if_pos c]; constructor
      · intro h; exact ⟨h, by rw [← Option.some.inj h]; exact c⟩
      · intro h; exact h.1
    · rw [if_neg c]; constructor
      · intro h; cases h
      · rintro ⟨h1, h2⟩; rw [← Option.some.inj h1] at h2; exact absurd h2 c
theorem numB_none {B : Nat → Nat} {N p b : Nat} (h : numB B N p b = none) {v : Nat} (hv : num B N p = some v) : ¬ v < b := fun z => by
  rw [numB_some.mpr ⟨hv, z⟩] at h; cases h
/-! ===== the class ===== -/
theorem numberC_ok {S a : St} {B : Nat → Nat} {N p : Nat} (hT : Txt S B N) (hf : fr Xt S a) (hp : p ≤ N) (hl : ldC B N p a) : f_X9_number a = some ((match num B N p with | none => -1 | some v => nI v), a) := by
  obtain ⟨t1, t2, -, t4⟩ := hT
  obtain ⟨y1, y2, y3, y4, y5, y6, y7, y8, y9, y10⟩ := tok_facts B hp
  obtain ⟨l1, l2, l3⟩ := hl
  unfold f_X9_number
  rw [l1, l2, l3, sub_n y3, lt_eq]
  by_cases k2 : tK B N p = 2
  · obtain ⟨y11, y12⟩ := y10 (Or.inr k2)
    have hdg : ∀ i, tB B N p ≤ i → i < tE B N p → 48 ≤ B i ∧ B i ≤ 57 := fun i h1 h2 => by
      have := y12 i h1 h2
      rw [k2] at this
      have := kd_cases (B i)
      omega
    rw [if_pos (by rw [k2]; rfl)]
    by_cases d : tE B N p - tB B N p ≤ 2
    · have hn : num B N p = some (nval B (tB B N p) (tE B N p - tB B N p)) := if_pos ⟨k2, d⟩
      rw [hn, if_pos (show nI (tE B N p - tB B N p) ≤ (2 : Int32) from of_eq_true (le_T (b := 2) (by omega)))]
      refine loopC (fun f (v : Nat) i => f_X9_number_L30 (fun x12 S13 => some (x12, S13)) f (nI v) (nI i) a) (fun y => y = some (nI (nval B (tB B N p) (tE B N p - tB B N p)), a)) (fun i v => tB B N p ≤ i ∧ v = nval B (tB B N p) (i - tB B N p) ∧ v ≤ 99) (tE B N p) ?_ ?_ (tE B N p - tB B N p) (tB B N p) FU 0 (by omega) (by unfold FU; omega) ⟨Nat.le_refl _, by rw [Nat.sub_self]; rfl, by omega⟩
      · intro f v ⟨w1, w2, w3⟩
        rw [← w2]
        show f_X9_number_L30 _ _ _ _ _ = _
        rw [f_X9_number_L30]
        simp (disch := omega) only [md_n, lt_eq, bd_some, gN, gN2, le_T, le_F, lt_T, lt_F, eq_T, eq_F, cN, plus_n, mul_n, rem_n, div_n, sub_n, re_T, re_F, rl_wr, rd_wl, ne_m1, m1_ne, m1_lt, m1_le, m1_ge, m1_gt, m1_refl, ↓reduceIte, L0, L1, L2, L3, L4, L5, L6, L7, L8, L9, L10, L11, L15, L16, L17, L18, L20, L24, L26, L28, L31, L32, L35, L36, L48, L57, L59, L63, L64, L96, L97, L99, L100, L112, L122, L128, L200, L255, L256, L1000, L1024, L2000, L3000, L1000000, L1000000007, l2]
      · intro f v i hi ⟨w1, w2, w3⟩
        right
        have e3 : rd a 21 i = nI (B i) := by rw [hf _ _ (by unfold Xt; omega)]; exact (t4 i (by omega)).2.1
        have hd := hdg i w1 hi
        have hnv : nval B (tB B N p) (i + 1 - tB B N p) = 10 * v + B i - 48 := by
          rw [show i + 1 - tB B N p = (i - tB B N p) + 1 by omega, nval, ← w2, show tB B N p + (i - tB B N p) = i by omega]; omega
        refine ⟨nval B (tB B N p) (i + 1 - tB B N p), ?_, by omega, rfl, ?_⟩
        · show f_X9_number_L30 _ _ _ _ _ = _
          rw [f_X9_number_L30, hnv]
          simp (disch := omega) only [md_n, lt_eq, bd_some, gN, gN2, le_T, le_F, lt_T, lt_F, eq_T, eq_F, cN, plus_n, mul_n, rem_n, div_n, sub_n, re_T, re_F, rl_wr, rd_wl, ne_m1, m1_ne, m1_lt, m1_le, m1_ge, m1_gt, m1_refl, ↓reduceIte, L0, L1, L2, L3, L4, L5, L6, L7, L8, L9, L10, L11, L15, L16, L17, L18, L20, L24, L26, L28, L31, L32, L35, L36, L48, L57, L59, L63, L64, L96, L97, L99, L100, L112, L122, L128, L200, L255, L256, L1000, L1024, L2000, L3000, L1000000, L1000000007, l2, e3]
        · exact nval2 (by omega) (fun x hx => hdg _ (by omega) (by omega))
    · have hn : num B N p = none := if_neg (fun z => d z.2)
      rw [hn, if_neg (show ¬ nI (tE B N p - tB B N p) ≤ (2 : Int32) from of_eq_false (le_F (b := 2) (by omega)))]
  · have hn : num B N p = none := if_neg (fun z => k2 z.1)
    rw [hn, if_neg (show ¬ nI (tK B N p) = (2 : Int32) from of_eq_false (eq_F (b := 2) (by omega)))]
theorem belowv {v b : Nat} (hv : v < 2147483648) (hb : b < 2147483648) (S : St) : f_X10_below (nI v) (nI b) S = some (bI (decide (v < b)), S) := by
  unfold f_X10_below
  by_cases c : v < b
  · rw [decide_eq_true c]; simp (disch := omega) only [md_n, lt_eq, bd_some, gN, gN2, le_T, le_F, lt_T, lt_F, eq_T, eq_F, cN, plus_n, mul_n, rem_n, div_n, sub_n, re_T, re_F, rl_wr, rd_wl, ne_m1, m1_ne, m1_lt, m1_le, m1_ge, m1_gt, m1_refl, ↓reduceIte, L0, L1, L2, L3, L4, L5, L6, L7, L8, L9, L10, L11, L15, L16, L17, L18, L20, L24, L26, L28, L31, L32, L35, L36, L48, L57, L59, L63, L64, L96, L97, L99, L100, L112, L122, L128, L200, L255, L256, L1000, L1024, L2000, L3000, L1000000, L1000000007]; rfl
  · rw [decide_eq_false c]; simp (disch := omega) only [md_n, lt_eq, bd_some, gN, gN2, le_T, le_F, lt_T, lt_F, eq_T, eq_F, cN, plus_n, mul_n, rem_n, div_n, sub_n, re_T, re_F, rl_wr, rd_wl, ne_m1, m1_ne, m1_lt, m1_le, m1_ge, m1_gt, m1_refl, ↓reduceIte, L0, L1, L2, L3, L4, L5, L6, L7, L8, L9, L10, L11, L15, L16, L17, L18, L20, L24, L26, L28, L31, L32, L35, L36, L48, L57, L59, L63, L64, L96, L97, L99, L100, L112, L122, L128, L200, L255, L256, L1000, L1024, L2000, L3000, L1000000, L1000000007]; rfl
theorem belowm (b : Int32) (S : St) : f_X10_below (-1) b S = some (0, S) := by
  unfold f_X10_below; rw [lt_eq, if_pos (by decide)]
/-- row n1 of the class, as far as it is told -/
theorem subjectC_ok {S a : St} {B : Nat → Nat} {N p n1 b : Nat} (hT : Txt S B N) (hf : fr Xt S a) (hp : p ≤ N) (hn1 : n1 < 10) (hb : b ≤ 100) (hl : ldC B N p a) :
    ∃ a', ((∃ v, numB B N p b = some v ∧ f_X9_readSubject n1 (nI b) a = some (1, a') ∧ ldC B N (tE B N p) a' ∧ rd a' (23 + n1) 1 = nI v) ∨ (numB B N p b = none ∧ f_X9_readSubject n1 (nI b) a = some (0, a') ∧ rd a' 20 5 = nI (tB B N p))) ∧ fr (fun c j => (c = 20 ∧ (j = 4 ∨ j = 5 ∨ j = 6)) ∨ (c = 23 + n1 ∧ j = 1)) a a' := by
  obtain ⟨y1, y2, y3, y4, -⟩ := tok_facts B hp
  have hnum := numberC_ok hT hf hp hl
  unfold f_X9_readSubject
  rw [hnum, bd_some, lt_eq, rw_eq]
  have hfail : ∀ x, f_X10_below x (nI b) (wr a (23 + n1) 1 x) = some (0, wr a (23 + n1) 1 x) → numB B N p b = none → (bd_ (f_X10_below x (nI b) (wr a (23 + n1) 1 x)) fun r5 S6 =>
  if r5 = 0 then
    some ((0 : Int32), S6)
  else
    bd_ (f_X9_step  S6) fun r8 S9 =>
    some ((1 : Int32), S9)) = some (0, wr a (23 + n1) 1 x) := fun x hx _ => by rw [hx, bd_some, if_pos rfl]
  have hkeep : ∀ x, fr (fun c j => (c = 20 ∧ (j = 4 ∨ j = 5 ∨ j = 6)) ∨ (c = 23 + n1 ∧ j = 1)) a (wr a (23 + n1) 1 x) := fun x => (fr.refl _ _).wr (by omega)
  have h5 : ∀ x, rd (wr a (23 + n1) 1 x) 20 5 = nI (tB B N p) := fun x => by rw [rw_ne (by omega)]; exact hl.1
  cases hn : num B N p with
  | none =>
    have hB : numB B N p b = none := by unfold numB; rw [hn]
    exact ⟨_, Or.inr ⟨hB, hfail (-1) (belowm _ _) hB, h5 _⟩, hkeep _⟩
  | some v =>
    have hv := num_le hp hn
    by_cases c : v < b
    · have hB : numB B N p b = some v := numB_some.mpr ⟨hn, c⟩
      have hbel := belowv (v := v) (b := b) (by omega) (by omega) (wr a (23 + n1) 1 (nI v))
      rw [decide_eq_true c] at hbel
      obtain ⟨a2, o1, o2, o3⟩ := step_ok (S := S) (a := wr a (23 + n1) 1 (nI v)) hT (hf.wr (by unfold Xt; omega)) y4 (by rw [rw_ne (by omega)]; exact hl.2.1)
      refine ⟨a2, Or.inl ⟨v, hB, ?_, o2, by rw [o3 _ _ (by omega), rw_eq]⟩, (hkeep _).trans (o3.mono (fun c j h => Or.inl h))⟩
      show (bd_ (f_X10_below (nI v) (nI b) (wr a (23 + n1) 1 (nI v))) _) = _
      rw [hbel, bd_some, if_neg (by decide), o1, bd_some]
    · have hB : numB B N p b = none := by unfold numB; rw [hn]; exact if_neg c
      have hbel := belowv (v := v) (b := b) (by omega) (by omega) (wr a (23 + n1) 1 (nI v))
      rw [decide_eq_false c] at hbel
      exact ⟨_, Or.inr ⟨hB, hfail (nI v) hbel hB, h5 _⟩, hkeep _⟩
theorem signC_ok {S a : St} {B : Nat → Nat} {N p x : Nat} (hT : Txt S B N) (hf : fr Xt S a) (hp : p ≤ N) (hx : x < 256) (hl : ldC B N p a) : f_X9_isSign (nI x) a = some (bI (decide (tK B N p = 3) && decide (B (tB B N p) = x)), a) := by
  obtain ⟨t1, t2, -, t4⟩ := hT
  obtain ⟨y1, y2, y3, y4, y5, y6, y7, y8, y9, y10⟩ := tok_facts B hp
  obtain ⟨l1, l2, l3⟩ := hl
  unfold f_X9_isSign
  by_cases k : tK B N p = 3
  · have hlt := (y9 k).2
    have e3 : rd a 21 (tB B N p) = nI (B (tB B N p)) := by rw [hf _ _ (by unfold Xt; omega)]; exact (t4 _ hlt).2.1
    have hb := (t4 _ hlt).1
    by_cases d : B (tB B N p) = x
    · rw [decide_eq_true k, decide_eq_true d]; simp (disch := omega) only [md_n, lt_eq, bd_some, gN, gN2, le_T, le_F, lt_T, lt_F, eq_T, eq_F, cN, plus_n, mul_n, rem_n, div_n, sub_n, re_T, re_F, rl_wr, rd_wl, ne_m1, m1_ne, m1_lt, m1_le, m1_ge, m1_gt, m1_refl, ↓reduceIte, L0, L1, L2, L3, L4, L5, L6, L7, L8, L9, L10, L11, L15, L16, L17, L18, L20, L24, L26, L28, L31, L32, L35, L36, L48, L57, L59, L63, L64, L96, L97, L99, L100, L112, L122, L128, L200, L255, L256, L1000, L1024, L2000, L3000, L1000000, L1000000007, l1, l3, e3]; rfl
    · rw [decide_eq_true k, decide_eq_false d]; simp (disch := omega) only [md_n, lt_eq, bd_some, gN, gN2, le_T, le_F, lt_T, lt_F, eq_T, eq_F, cN, plus_n, mul_n, rem_n, div_n, sub_n, re_T, re_F, rl_wr, rd_wl, ne_m1, m1_ne, m1_lt, m1_le, m1_ge, m1_gt, m1_refl, ↓reduceIte, L0, L1, L2, L3, L4, L5, L6, L7, L8, L9, L10, L11, L15, L16, L17, L18, L20, L24, L26, L28, L31, L32, L35, L36, L48, L57, L59, L63, L64, L96, L97, L99, L100, L112, L122, L128, L200, L255, L256, L1000, L1024, L2000, L3000, L1000000, L1000000007, l1, l3, e3]; rfl
  · rw [decide_eq_false k]; simp (disch := omega) only [md_n, lt_eq, bd_some, gN, gN2, le_T, le_F, lt_T, lt_F, eq_T, eq_F, cN, plus_n, mul_n, rem_n, div_n, sub_n, re_T, re_F, rl_wr, rd_wl, ne_m1, m1_ne, m1_lt, m1_le, m1_ge, m1_gt, m1_refl, ↓reduceIte, L0, L1, L2, L3, L4, L5, L6, L7, L8, L9, L10, L11, L15, L16, L17, L18, L20, L24, L26, L28, L31, L32, L35, L36, L48, L57, L59, L63, L64, L96, L97, L99, L100, L112, L122, L128, L200, L255, L256, L1000, L1024, L2000, L3000, L1000000, L1000000007, l1, l3]; rfl
