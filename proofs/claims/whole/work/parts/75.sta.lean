/-! ===== the platforms: what a tick does ===== -/
def pa (S : St) (c : Nat) : Nat := nv S (300 + 2 * c) 0
def li (S : St) (c : Nat) : Nat := nv S (300 + 2 * c) 1
def nu (S : St) (c : Nat) : Nat := nv S (300 + 2 * c) 2
def da (S : St) (c : Nat) : Bool := decide (rd S (300 + 2 * c) 3 ≠ 0)
def re (S : St) (c : Nat) : Nat := nv S (300 + 2 * c) 4
def sl (S : St) (c : Nat) : Nat := nv S (300 + 2 * c) 5
def nr (S : St) (p q : Nat) : Bool := tb (nv S 46 p) q
def OKs (S : St) (c : Nat) : Prop := (pa S c < 6 ∧ rd S (300 + 2 * c) 0 = nI (pa S c) ∧ rd S 75 c = nI (pa S c)) ∧ (li S c < 8 ∧ rd S (300 + 2 * c) 1 = nI (li S c) ∧ rd S 76 c = nI (li S c) ∧ 0 < nv S 18 (li S c)) ∧ (nu S c < 100 ∧ rd S (300 + 2 * c) 2 = nI (nu S c) ∧ rd S 77 c = nI (nu S c)) ∧ (rd S (300 + 2 * c) 3 = bI (da S c) ∧ rd S 80 c = bI (da S c)) ∧ (re S c ≤ 2000 ∧ rd S (300 + 2 * c) 4 = nI (re S c) ∧ rd S 78 c = nI (re S c)) ∧ (sl S c ≤ 3000 ∧ rd S (300 + 2 * c) 5 = nI (sl S c) ∧ rd S 79 c = nI (sl S c))
def I_near (S : St) : Prop := ∀ p, p < 6 → rd S 46 p = nI (nv S 46 p) ∧ nv S 46 p < 64 ∧ rd S 72 p = nI (nv S 72 p) ∧ nv S 72 p < 64 ∧ ∀ q, q < 6 → tb (nv S 46 p) q = (decide (p = q) || tb (nv S 72 p) q)
/-- state, sounds said, begun, told to stop, ends of words -/
abbrev Ast : Type := (Nat → Nat) × (Nat → Nat) × (Nat → Int32) × (Nat → Bool) × (Nat → List Nat)
def Ast.st (a : Ast) : Nat → Nat := a.1
def Ast.sd (a : Ast) : Nat → Nat := a.2.1
def Ast.bg (a : Ast) : Nat → Int32 := a.2.2.1
def Ast.ts (a : Ast) : Nat → Bool := a.2.2.2.1
def Ast.en (a : Ast) : Nat → List Nat := a.2.2.2.2
def fup {α : Type} (f : Nat → α) (c : Nat) (x : α) : Nat → α := fun k => if k = c then x else f k
theorem fup_eq {α : Type} (f : Nat → α) (c : Nat) (x : α) : fup f c x c = x := if_pos rfl
theorem fup_ne {α : Type} (f : Nat → α) {c k : Nat} (x : α) (h : k ≠ c) : fup f c x k = f k := if_neg h
/-- ends of words, one behind the other -/
def ends (S : St) : List Nat → Nat → List Nat
  | [], _ => []
  | w :: ws, s => (s + nv S 16 w) :: ends S ws (s + nv S 16 w)
noncomputable def mu (S : St) (c : Nat) : Option (List Nat) :=
  if wtold S (spk S (li S c) (nu S c)) = true then (if jarR (fw S (vo S (pa S c))) (spk S (li S c) (nu S c)) 0 = -1 then none else some (ends S (spk S (li S c) (nu S c)) 0)) else none
def ready (S : St) (T : Nat) (a : Ast) (c : Nat) : Bool := decide (a.st c = 0 ∧ re S c ≤ T)
noncomputable def beg (S : St) (T : Nat) (c : Nat) (a : Ast) : Ast := match mu S c with
  | none => (fup a.st c 5, a.sd, a.bg, a.ts, a.en)
  | some E => (fup a.st c 1, a.sd, fup a.bg c (nI T), a.ts, fup a.en c E)
def heardBy (S : St) (a : Ast) (c o : Nat) : Bool := decide (a.st o = 1) && nr S (pa S c) (pa S o)
def free (S : St) (n : Nat) (a : Ast) (c : Nat) : Bool := (List.range n).all (fun o => !(heardBy S a c o))
def hushA (S : St) (n : Nat) (c : Nat) (a : Ast) : Ast := (a.st, a.sd, a.bg, fun o => a.ts o || (decide (o < n) && heardBy S a c o && !(da S o)), a.en)
def stlA (S : St) (n T : Nat) (a : Ast) : Ast := (fun c => if c < n ∧ a.st c = 0 ∧ sl S c ≤ T then 4 else a.st c, a.sd, a.bg, a.ts, a.en)
noncomputable def dngS (S : St) (n T c : Nat) (a : Ast) : Ast := if (da S c && ready S T a c) = true then (if free S n a c = true then beg S T c (hushA S n c a) else hushA S n c a) else a
noncomputable def dngA (S : St) (n T : Nat) : Nat → Ast → Ast
  | 0, a => a
  | c + 1, a => dngS S n T c (dngA S n T c a)
def calm (S : St) (n T : Nat) (a : Ast) (c : Nat) : Bool := (List.range n).all (fun o => !(da S o && ready S T a o && nr S (pa S c) (pa S o)))
noncomputable def othS (S : St) (n T c : Nat) (a : Ast) : Ast := if (!(da S c) && ready S T a c && calm S n T a c && free S n a c) = true then beg S T c a else a
noncomputable def othA (S : St) (n T : Nat) : Nat → Ast → Ast
  | 0, a => a
  | c + 1, a => othS S n T c (othA S n T c a)
def lastE (L : List Nat) : Nat := L.getD (L.length - 1) 0
def sayS (a : Ast) (c : Nat) : Nat := if a.sd c + 1 = lastE (a.en c) then 2 else if (a.en c).contains (a.sd c + 1) && a.ts c then 3 else 1
def sayA (n : Nat) (a : Ast) : Ast := (fun c => if c < n ∧ a.st c = 1 then sayS a c else a.st c, fun c => if c < n ∧ a.st c = 1 then a.sd c + 1 else a.sd c, a.bg, a.ts, a.en)
noncomputable def tickA (S : St) (n T : Nat) (a : Ast) : Ast := sayA n (othA S n T n (dngA S n T n (stlA S n T a)))
/-- rows of ends: they grow, and end -/
def incr (L : List Nat) : Prop := L ≠ [] ∧ L.length ≤ 16 ∧ (∀ i, i < L.length → L.getD i 0 ≤ 200) ∧ ∀ i, i + 1 < L.length → L.getD i 0 < L.getD (i + 1) 0
def wf (S : St) (n : Nat) (a : Ast) : Prop := (∀ c, c < n → a.st c ≤ 5 ∧ (a.st c = 0 → a.sd c = 0) ∧ a.sd c ≤ 200 ∧ (a.st c = 1 → incr (a.en c) ∧ a.sd c < lastE (a.en c))) ∧ ∀ c d, c < n → d < n → a.st c = 1 → a.st d = 1 → pa S c = pa S d → c = d
def repC (S : St) (n T : Nat) (a : Ast) (b : St) : Prop := rd b 43 7 = nI n ∧ rd b 43 8 = nI T ∧ nC b = n ∧ (∀ c, c < n → rd b (300 + 2 * c) 6 = nI (a.st c) ∧ rd b (300 + 2 * c) 7 = nI (a.sd c) ∧ rd b (300 + 2 * c) 8 = a.bg c ∧ rd b (300 + 2 * c) 9 = bI (a.ts c) ∧ (a.st c = 0 → rd b (300 + 2 * c) 12 = nI 0) ∧
    (a.st c = 1 → rd b (300 + 2 * c) 11 = nI (a.en c).length ∧ (∀ i, i < (a.en c).length → rd b (300 + 2 * c + 1) i = nI ((a.en c).getD i 0)) ∧ ∃ w, w < (a.en c).length ∧ rd b (300 + 2 * c) 12 = nI w ∧ (∀ i, i < w → (a.en c).getD i 0 ≤ a.sd c) ∧ a.sd c < (a.en c).getD w 0)) ∧
  ∀ p, p < 6 → (∃ c, c < n ∧ a.st c = 1 ∧ pa S c = p ∧ rd b 47 p = nI c) ∨ ((∀ c, c < n → a.st c = 1 → pa S c ≠ p) ∧ rd b 47 p = -1)
def repM (n T : Nat) (a : Ast) (b : St) : Prop := rd b 54 32 = nI n ∧ rd b 54 31 = nI T ∧ ∀ c, c < n → rd b 81 c = nI (a.st c) ∧ rd b 82 c = nI (a.sd c) ∧ rd b 83 c = a.bg c ∧ rd b 84 c = bI (a.ts c) ∧
    (a.st c = 1 → rd b 85 c = nI (lastE (a.en c)) ∧ ∀ i, i < 16 → rd b 86 (16 * c + i) = if i < (a.en c).length then nI ((a.en c).getD i 0) else -1)
def XcC (c j : Nat) : Prop := (300 ≤ c ∧ c < 348 ∧ (c % 2 = 1 ∨ 6 ≤ j)) ∨ (c = 43 ∧ j = 8) ∨ c = 47 ∨ Xsc c j ∨ Xw c j
def XcM (c j : Nat) : Prop := (81 ≤ c ∧ c ≤ 86) ∨ (c = 54 ∧ j = 31) ∨ Xsm c j ∨ Xm c j
/-- what stands still while ticks go by -/
def Still (S : St) (n T : Nat) : Prop := n ≤ 24 ∧ T ≤ 2000 ∧ (∀ c, c < n → OKs S c) ∧ I_near S ∧ I_vox S ∧ I_lex S ∧ I_pcs S ∧ I_cut S
theorem bI_ne (b : Bool) : (bI b = nI 0) = (b = false) := by cases b <;> simp [bI] <;> decide
theorem bI_z (b : Bool) : (bI b = (0 : Int32)) = (b = false) := bI_ne b
/-! who waits -/
theorem isReady_ok {S a : St} {n T : Nat} {A : Ast} {c : Nat} (hS : Still S n T) (hf : fr XcC S a) (hR : repC S n T A a) (hc : c < n) (hst : A.st c ≤ 5) : f_X0_isReadyAt c (nI T) a = some (bI (ready S T A c), a) := by
  have h24 := hS.1
  have hT := hS.2.1
  obtain ⟨-, -, -, -, ⟨e1, e2, -⟩, -⟩ := hS.2.2.1 c hc
  have f4 : rd a (300 + 2 * c) 4 = nI (re S c) := by rw [hf _ _ (by unfold XcC Xsc Xw; omega)]; exact e2
  have f6 := (hR.2.2.2.1 c hc).1
  unfold f_X0_isReadyAt ready
  by_cases d1 : A.st c = 0
  · by_cases d2 : re S c ≤ T
    · rw [decide_eq_true ⟨d1, d2⟩]; simp (disch := omega) only [md_n, lt_eq, bd_some, gN, gN2, le_T, le_F, lt_T, lt_F, eq_T, eq_F, cN, plus_n, mul_n, rem_n, div_n, sub_n, re_T, re_F, rl_wr, rd_wl, ne_m1, m1_ne, m1_lt, m1_le, m1_ge, m1_gt, m1_refl, ↓reduceIte, L0, L1, L2, L3, L4, L5, L6, L7, L8, L9, L10, L11, L15, L16, L17, L18, L20, L24, L26, L28, L31, L32, L35, L36, L48, L57, L59, L63, L64, L96, L97, L99, L100, L112, L122, L128, L200, L255, L256, L1000, L1024, L2000, L3000, L1000000, L1000000007, f4, f6]; rfl
    · rw [decide_eq_false (fun z => d2 z.2)]; simp (disch := omega) only [md_n, lt_eq, bd_some, gN, gN2, le_T, le_F, lt_T, lt_F, eq_T, eq_F, cN, plus_n, mul_n, rem_n, div_n, sub_n, re_T, re_F, rl_wr, rd_wl, ne_m1, m1_ne, m1_lt, m1_le, m1_ge, m1_gt, m1_refl, ↓reduceIte, L0, L1, L2, L3, L4, L5, L6, L7, L8, L9, L10, L11, L15, L16, L17, L18, L20, L24, L26, L28, L31, L32, L35, L36, L48, L57, L59, L63, L64, L96, L97, L99, L100, L112, L122, L128, L200, L255, L256, L1000, L1024, L2000, L3000, L1000000, L1000000007, f4, f6]; rfl
  · rw [decide_eq_false (fun z => d1 z.1)]; simp (disch := omega) only [md_n, lt_eq, bd_some, gN, gN2, le_T, le_F, lt_T, lt_F, eq_T, eq_F, cN, plus_n, mul_n, rem_n, div_n, sub_n, re_T, re_F, rl_wr, rd_wl, ne_m1, m1_ne, m1_lt, m1_le, m1_ge, m1_gt, m1_refl, ↓reduceIte, L0, L1, L2, L3, L4, L5, L6, L7, L8, L9, L10, L11, L15, L16, L17, L18, L20, L24, L26, L28, L31, L32, L35, L36, L48, L57, L59, L63, L64, L96, L97, L99, L100, L112, L122, L128, L200, L255, L256, L1000, L1024, L2000, L3000, L1000000, L1000000007, f4, f6]; rfl
theorem isWaiting_ok {S a : St} {n T : Nat} {A : Ast} {c : Nat} (hS : Still S n T) (hf : fr XcM S a) (hR : repM n T A a) (hc : c < n) (hst : A.st c ≤ 5) : f_X11_isWaiting (nI c) a = some (bI (ready S T A c), a) := by
  have h24 := hS.1
  have hT := hS.2.1
  obtain ⟨-, -, -, -, ⟨e1, -, e2⟩, -⟩ := hS.2.2.1 c hc
  have f4 : rd a 78 c = nI (re S c) := by rw [hf _ _ (by unfold XcM Xsm Xm; omega)]; exact e2
  have f6 := (hR.2.2 c hc).1
  have f5 := hR.2.1
  unfold f_X11_isWaiting ready
  by_cases d1 : A.st c = 0
  · by_cases d2 : re S c ≤ T
    · rw [decide_eq_true ⟨d1, d2⟩]; simp (disch := omega) only [md_n, lt_eq, bd_some, gN, gN2, le_T, le_F, lt_T, lt_F, eq_T, eq_F, cN, plus_n, mul_n, rem_n, div_n, sub_n, re_T, re_F, rl_wr, rd_wl, ne_m1, m1_ne, m1_lt, m1_le, m1_ge, m1_gt, m1_refl, ↓reduceIte, L0, L1, L2, L3, L4, L5, L6, L7, L8, L9, L10, L11, L15, L16, L17, L18, L20, L24, L26, L28, L31, L32, L35, L36, L48, L57, L59, L63, L64, L96, L97, L99, L100, L112, L122, L128, L200, L255, L256, L1000, L1024, L2000, L3000, L1000000, L1000000007, f4, f5, f6]; rfl
    · rw [decide_eq_false (fun z => d2 z.2)]; simp (disch := omega) only [md_n, lt_eq, bd_some, gN, gN2, le_T, le_F, lt_T, lt_F, eq_T, eq_F, cN, plus_n, mul_n, rem_n, div_n, sub_n, re_T, re_F, rl_wr, rd_wl, ne_m1, m1_ne, m1_lt, m1_le, m1_ge, m1_gt, m1_refl, ↓reduceIte, L0, L1, L2, L3, L4, L5, L6, L7, L8, L9, L10, L11, L15, L16, L17, L18, L20, L24, L26, L28, L31, L32, L35, L36, L48, L57, L59, L63, L64, L96, L97, L99, L100, L112, L122, L128, L200, L255, L256, L1000, L1024, L2000, L3000, L1000000, L1000000007, f4, f5, f6]; rfl
  · rw [decide_eq_false (fun z => d1 z.1)]; simp (disch := omega) only [md_n, lt_eq, bd_some, gN, gN2, le_T, le_F, lt_T, lt_F, eq_T, eq_F, cN, plus_n, mul_n, rem_n, div_n, sub_n, re_T, re_F, rl_wr, rd_wl, ne_m1, m1_ne, m1_lt, m1_le, m1_ge, m1_gt, m1_refl, ↓reduceIte, L0, L1, L2, L3, L4, L5, L6, L7, L8, L9, L10, L11, L15, L16, L17, L18, L20, L24, L26, L28, L31, L32, L35, L36, L48, L57, L59, L63, L64, L96, L97, L99, L100, L112, L122, L128, L200, L255, L256, L1000, L1024, L2000, L3000, L1000000, L1000000007, f4, f5, f6]; rfl
