/-! ===== record: what a line covers, the class ===== -/
def cvr (Q T : List Nat) (b : Nat) : Prop := b < 2 ^ 36 ∧ ∀ i, (tb b i = true ↔ i < Q.length ∧ Q.getD i 0 ∈ T)
theorem tb0 {i : Nat} (z : tb 0 i = true) : False := by
  unfold tb at z; rw [Nat.zero_testBit] at z; cases z
theorem cvr0 (Q : List Nat) : cvr Q [] 0 := ⟨by decide, fun i => ⟨fun z => (tb0 z).elim, fun z => absurd z.2 List.not_mem_nil⟩⟩
theorem lt63 {b : Nat} (h : b < 2 ^ 36) : b < 2 ^ 63 := Nat.lt_trans h (by decide)
theorem cvr_or {Q T : List Nat} {b b' c : Nat} (h : cvr Q T b) (h1 : b' < 2 ^ 36) (h2 : ∀ i, (tb b' i = true ↔ i < Q.length ∧ Q.getD i 0 = c)) : cvr Q (T ++ [c]) (b ||| b') := by
  refine ⟨Nat.or_lt_two_pow h.1 h1, fun i => ?_⟩
  rw [tb_or, Bool.or_eq_true, h.2 i, h2 i, List.mem_append, List.mem_singleton]
  exact ⟨fun z => by rcases z with z | z; exact ⟨z.1, Or.inl z.2⟩; exact ⟨z.1, Or.inr z.2⟩, fun z => by rcases z.2 with y | y; exact Or.inl ⟨z.1, y⟩; exact Or.inr ⟨z.1, y⟩⟩
theorem cov35 {S a : St} {Q T : List Nat} {w p b : Nat} (hI : I_lex S) (hf : fr Xrc S a) (hQ : qOK a Q) (hw : w < 32) (hp : p ≤ 16) (hb : cvr Q T b) (v4 : Int32) (K : Int64 → Int32 → St → Option (Int64 × St)) :
    ∃ b', f_X4_coverOfSpoken_L35 K v4 (nI w) FU (lN b) (nI p) (nI 0) a = K (lN b') (nI (rpv (rsn S w) p (nv S 16 w))) a ∧ cvr Q (T ++ rst (rsn S w) p (nv S 16 w)) b' := by
  have h8 := (hI.1 w hw).2.1
  refine loopC (fun f (b : Nat) i => f_X4_coverOfSpoken_L35 K v4 (nI w) f (lN b) (nI (rpv (rsn S w) p i)) (nI i) a) (fun y => ∃ b', y = K (lN b') (nI (rpv (rsn S w) p (nv S 16 w))) a ∧ cvr Q (T ++ rst (rsn S w) p (nv S 16 w)) b')
    (fun i b => cvr Q (T ++ rst (rsn S w) p i) b) (nv S 16 w) ?_ ?_ (nv S 16 w) 0 FU b (by omega) (by unfold FU; omega) (by rw [rst, List.append_nil]; exact hb)
  · intro f b g
    refine ⟨b, ?_, g⟩
    show f_X4_coverOfSpoken_L35 _ _ _ (f + 1) _ _ _ _ = _
    rw [f_X4_coverOfSpoken_L35, gd_t (inb_n hw (by decide)), cl_n (by omega), len_cg hI hf hw, if_pos (Int32.le_refl _)]
  · intro f b i hi g
    right
    have hp1 := rpv_le S w hp i
    have hs := rsn_lt S w i
    obtain ⟨b', b1, b2, -, b4⟩ := bitOf_ok (c := rpv (rsn S w) p i * 17 + rsn S w i) hQ (by omega)
    refine ⟨b ||| b', ?_, ?_⟩
    · show f_X4_coverOfSpoken_L35 _ _ _ (f + 1) _ _ _ _ = f_X4_coverOfSpoken_L35 _ _ _ f _ (nI (rsn S w i)) _ _
      rw [f_X4_coverOfSpoken_L35, gd_t (inb_n hw (by decide)), cl_n (by omega), len_cg hI hf hw, if_neg (of_eq_false (le_F (by omega))), sndC_cg hI hf hw hi, bd_some]
      unfold f_X4_stepOf
      rw [bd_some, show (17 : Int32) = nI 17 from rfl, mul_n, plus_n, b1, bd_some, lt_eq, lt_eq, lor_n (lt63 g.1) (lt63 b2), show nI i + (1 : Int32) = nI (i + 1) from plus_n i 1]
    · rw [rst, ← List.append_assoc]
      exact cvr_or g b2 b4
def Kcs (x24 : Int64) (x25 : Int32) (S26 : St) : Option (Int64 × St) :=
      bd_ (f_X4_stepOf x25 (16 : Int32) S26) fun r27 S28 =>
      bd_ (f_X4_bitOf r27 S28) fun r29 S30 =>
      some ((x24 ||| r29), S30)
theorem spoken_ok {S a : St} {Q L : List Nat} (hI : I_lex S) (hf : fr Xrc S a) (hQ : qOK a Q) (hL : hasL a 19 14 5 L) (h16 : L.length ≤ 16) (hw : ∀ i, i < L.length → L.getD i 0 < 32) : ∃ b, f_X4_coverOfSpoken a = some (lN b, a) ∧ cvr Q (rsF S L) b := by
  have h0 : f_X4_coverOfSpoken a = f_X4_coverOfSpoken_L8 Kcs FU (0 : Int64) (16 : Int32) (0 : Int32) a := by
    unfold f_X4_coverOfSpoken Kcs
    rfl
  rw [h0, L16, L0, show (0 : Int64) = lN 0 from rfl]
  refine loopC (fun f (b : Nat) k => f_X4_coverOfSpoken_L8 Kcs f (lN b) (nI (rpL S L k)) (nI k) a) (fun y => ∃ b, y = some (lN b, a) ∧ cvr Q (rsF S L) b) (fun k b => cvr Q (rsL S L k) b) L.length ?_ ?_ L.length 0 FU 0 (by omega) (by unfold FU; omega) (cvr0 Q)
  · intro f b g
    have hp := rpL_le S L L.length
    obtain ⟨b', b1, b2, -, b4⟩ := bitOf_ok (c := rpL S L L.length * 17 + 16) hQ (by omega)
    refine ⟨b ||| b', ?_, cvr_or g b2 b4⟩
    show f_X4_coverOfSpoken_L8 Kcs (f + 1) _ _ _ _ = _
    rw [f_X4_coverOfSpoken_L8, hL.1, if_pos (Int32.le_refl _)]
    unfold Kcs f_X4_stepOf
    rw [bd_some, show (17 : Int32) = nI 17 from rfl, show (16 : Int32) = nI 16 from rfl, mul_n, plus_n, b1, bd_some, lor_n (lt63 g.1) (lt63 b2)]
  · intro f b k hk g
    right
    obtain ⟨b', b1, b2⟩ := cov35 (p := rpL S L k) hI hf hQ (hw k hk) (rpL_le S L k) g (nI k) (fun (x20 : Int64) (x21 : Int32) (S22 : St) =>
          lt_ (nI k + (1 : Int32)) fun x23 =>
          f_X4_coverOfSpoken_L8 Kcs f x20 x21 x23 S22)
    refine ⟨b', ?_, b2⟩
    show f_X4_coverOfSpoken_L8 Kcs (f + 1) _ _ _ _ = f_X4_coverOfSpoken_L8 Kcs f (lN b') (nI (rpv (rsn S (L.getD k 0)) (rpL S L k) (nv S 16 (L.getD k 0)))) (nI (k + 1)) a
    rw [f_X4_coverOfSpoken_L8, hL.1, if_neg (of_eq_false (le_F (by omega))), gd_t (inb_n (by omega) (by decide)), cl_n (by omega), lt_eq, hL.2 k hk]
    rw [show nI k + (1 : Int32) = nI (k + 1) from plus_n k 1] at b1 ⊢
    exact b1
/-! which lines serve -/
def hnb (S : St) (l : Nat) : Bool := (List.range (nv S 18 l)).any (fun j => decide (nv S 17 (8 * l + j) = 100))
def usb (S : St) (l : Nat) : Bool := decide (0 < nv S 18 l) && !hnb S l && wtold S (spk S l 0)
theorem any_at {n : Nat} {p : Nat → Bool} : (List.range n).any p = true ↔ ∃ i, i < n ∧ p i = true := by
  rw [List.any_eq_true]
  exact ⟨fun ⟨i, h1, h2⟩ => ⟨i, List.mem_range.mp h1, h2⟩, fun ⟨i, h1, h2⟩ => ⟨i, List.mem_range.mpr h1, h2⟩⟩
theorem hnb_no {S : St} {l : Nat} (h : ∀ j, j < nv S 18 l → nv S 17 (8 * l + j) ≠ 100) : hnb S l = false := by
  rw [Bool.eq_false_iff]
  intro z
  obtain ⟨i, h1, h2⟩ := any_at.mp z
  exact h i h1 (of_decide_eq_true h2)
theorem hasNumberC_ok {S a : St} {l : Nat} (hI : I_lex S) (hf : fr Xrc S a) (hl : l < 8) : f_X1_hasNumber (nI l) a = some (bI (hnb S l), a) := by
  obtain ⟨g1, g2, g3, g4⟩ := hI.2 l hl
  have e18 : rd a 18 l = nI (nv S 18 l) := by rw [hf _ _ (by unfold Xrc Xsc Xsm; omega)]; exact g1
  unfold f_X1_hasNumber
  refine loopC (fun f (_ : Unit) i => f_X1_hasNumber_L2 _ _ (nI l) f (nI i) a) (fun y => y = some (bI (hnb S l), a)) (fun i _ => ∀ j, j < i → nv S 17 (8 * l + j) ≠ 100) (nv S 18 l) ?_ ?_ (nv S 18 l) 0 FU () (by omega) (by unfold FU; omega) (fun j hj => by omega)
  · intro f _ h
    show f_X1_hasNumber_L2 _ _ _ (f + 1) _ _ = _
    rw [f_X1_hasNumber_L2, gd_t (inb_n hl (by decide)), cl_n (by omega), e18, if_pos (Int32.le_refl _), hnb_no h]; rfl
  · intro f _ i hi h
    obtain ⟨p1, p2, p3⟩ := g4 i hi
    have e17 : rd a 17 (l * 8 + i) = nI (nv S 17 (8 * l + i)) := by rw [hf _ _ (by unfold Xrc Xsc Xsm; omega), Nat.mul_comm]; exact p1
    have hst : f_X1_hasNumber_L2 (fun (S9 : St) => some ((1 : Int32), S9)) (fun (S10 : St) => some ((0 : Int32), S10)) (nI l) (f + 1) (nI i) a = if nI (nv S 17 (8 * l + i)) = (100 : Int32) then some (1, a) else f_X1_hasNumber_L2 (fun (S9 : St) => some ((1 : Int32), S9)) (fun (S10 : St) => some ((0 : Int32), S10)) (nI l) f (nI (i + 1)) a := by
      rw [f_X1_hasNumber_L2, gd_t (inb_n hl (by decide)), cl_n (by omega), e18, if_neg (of_eq_false (le_F (by omega))), show (8 : Int32) = nI 8 from rfl, mul_n, plus_n, gd_t (inb_n (by omega) (by decide)), cl_n (by omega), e17, lt_eq, show nI i + (1 : Int32) = nI (i + 1) from plus_n i 1]
    by_cases d : nv S 17 (8 * l + i) = 100
    · left
      show f_X1_hasNumber_L2 _ _ _ (f + 1) _ _ = _
      rw [hst, if_pos (by rw [d]; rfl), show hnb S l = true from any_at.mpr ⟨i, hi, decide_eq_true d⟩]; rfl
    · right
      refine ⟨(), ?_, fun j hj => ?_⟩
      · show f_X1_hasNumber_L2 _ _ _ (f + 1) _ _ = f_X1_hasNumber_L2 _ _ _ f _ _
        rw [hst, if_neg (show ¬ nI (nv S 17 (8 * l + i)) = (100 : Int32) from of_eq_false (eq_F (b := 100) (by omega)))]
      · by_cases y : j = i
        · rw [y]; exact d
        · exact h j (by omega)
theorem hasNumberM_ok {S a : St} {l : Nat} (hI : I_lex S) (hf : fr Xrc S a) (hl : l < 8) : f_X11_hasNumber (nI l) a = some (bI (hnb S l), a) := by
  obtain ⟨g1, g2, g3, g4⟩ := hI.2 l hl
  have e18 : rd a 69 l = nI (nv S 18 l) := by rw [hf _ _ (by unfold Xrc Xsc Xsm; omega)]; exact g3
  unfold f_X11_hasNumber
  refine loopC (fun f (b : Bool) i => f_X11_hasNumber_L4 (fun x13 S14 => gd_ (bz x13) <| some (x13, S14)) (nI l) f (bI b) (nI i) a) (fun y => y = some (bI (hnb S l), a)) (fun i b => (b = false ∧ ∀ j, j < i → nv S 17 (8 * l + j) ≠ 100) ∨ (b = true ∧ hnb S l = true)) (nv S 18 l) ?_ ?_ (nv S 18 l) 0 FU false (by omega) (by unfold FU; omega) (Or.inl ⟨rfl, fun j hj => by omega⟩)
  · intro f b h
    have e : b = hnb S l := by
      rcases h with ⟨h1, h2⟩ | ⟨h1, h2⟩
      · rw [h1, hnb_no h2]
      · rw [h1, h2]
    show f_X11_hasNumber_L4 _ _ (f + 1) _ _ _ = _
    rw [f_X11_hasNumber_L4, gd_t (inb_n hl (by decide)), cl_n (by omega), e18, if_pos (Int32.le_refl _), e, gd_t]
    cases hnb S l
    · exact Or.inl rfl
    · exact Or.inr rfl
  · intro f b i hi h
    right
    obtain ⟨p1, p2, p3⟩ := g4 i hi
    have e17 : rd a 70 (8 * l + i) = nI (if nv S 17 (8 * l + i) = 100 then 32 else nv S 17 (8 * l + i)) := by rw [hf _ _ (by unfold Xrc Xsc Xsm; omega)]; exact p3
    have e1 : nI i + (1 : Int32) = nI (i + 1) := plus_n i 1
    have hst : ∀ x, f_X11_hasNumber_L4 (fun x13 S14 => gd_ (bz x13) <| some (x13, S14)) (nI l) (f + 1) x (nI i) a = if x = 0 then (if nI (if nv S 17 (8 * l + i) = 100 then 32 else nv S 17 (8 * l + i)) = (32 : Int32) then f_X11_hasNumber_L4 (fun x13 S14 => gd_ (bz x13) <| some (x13, S14)) (nI l) f 1 (nI (i + 1)) a else f_X11_hasNumber_L4 (fun x13 S14 => gd_ (bz x13) <| some (x13, S14)) (nI l) f 0 (nI (i + 1)) a) else f_X11_hasNumber_L4 (fun x13 S14 => gd_ (bz x13) <| some (x13, S14)) (nI l) f 1 (nI (i + 1)) a := by
      intro x
      have e8 : (8 : Int32) * nI l + nI i = nI (8 * l + i) := by rw [show (8 : Int32) = nI 8 from rfl, mul_n, plus_n]
      have hin : inb (nI (8 * l + i)) 64 := inb_n (by omega) (by decide)
      have hcl : (nI (8 * l + i)).toNatClampNeg = 8 * l + i := cl_n (by omega)
      rw [f_X11_hasNumber_L4, gd_t (inb_n hl (by decide)), cl_n (by omega), e18, if_neg (of_eq_false (le_F (by omega)))]
      simp only [lt_eq, e8, gd_t hin, hcl, e17, e1]
    rcases h with ⟨rfl, h⟩ | ⟨rfl, h⟩
    · by_cases d : nv S 17 (8 * l + i) = 100
      · refine ⟨true, ?_, Or.inr ⟨rfl, any_at.mpr ⟨i, hi, decide_eq_true d⟩⟩⟩
        show f_X11_hasNumber_L4 _ _ (f + 1) 0 _ _ = f_X11_hasNumber_L4 _ _ f 1 _ _
        rw [hst, if_pos rfl, if_pos (by rw [if_pos d]; rfl)]
      · refine ⟨false, ?_, Or.inl ⟨rfl, fun j hj => ?_⟩⟩
        · show f_X11_hasNumber_L4 _ _ (f + 1) 0 _ _ = f_X11_hasNumber_L4 _ _ f 0 _ _
          rw [hst, if_pos rfl, if_neg (by rw [if_neg d]; exact of_eq_false (eq_F (b := 32) (by omega)))]
        · by_cases y : j = i
          · rw [y]; exact d
          · exact h j (by omega)
    · refine ⟨true, ?_, Or.inr ⟨rfl, h⟩⟩
      show f_X11_hasNumber_L4 _ _ (f + 1) 1 _ _ = f_X11_hasNumber_L4 _ _ f 1 _ _
      rw [hst, if_neg (by decide)]
theorem knows_n {S a : St} {l : Nat} (hI : I_lex S) (hf : fr Xrc S a) (hl : l < 8) : f_X1_knows (nI l) a = some (bI (decide (0 < nv S 18 l)), a) ∧ f_X11_isLine (nI l) a = some (bI (decide (0 < nv S 18 l)), a) := by
  obtain ⟨g1, g2, g3, -⟩ := hI.2 l hl
  have e1 : rd a 18 l = nI (nv S 18 l) := by rw [hf _ _ (by unfold Xrc Xsc Xsm; omega)]; exact g1
  have e3 : rd a 69 l = nI (nv S 18 l) := by rw [hf _ _ (by unfold Xrc Xsc Xsm; omega)]; exact g3
  rcases bl (nI l) 8 (by decide) (by decide) with h | ⟨l', hl', e, h⟩
  · have := (h a).1
    unfold f_X10_below at this
    rw [lt_eq, if_neg (nI_pos (n := l) (by omega)), if_neg (by rw [le_n (by omega) (by omega)]; omega)] at this
    exact absurd (Prod.mk.inj (Option.some.inj this)).1 (by decide)
  · obtain ⟨h1, h2⟩ := h a
    unfold f_X1_knows f_X11_isLine
    rw [show f_X10_below (nI l) 8 a = _ from h1, show f_X11_in (nI l) 0 7 a = _ from h2]
    by_cases c : nv S 18 l = 0
    · rw [decide_eq_false (by omega)]
      simp (disch := omega) only [md_n, lt_eq, bd_some, gN, gN2, le_T, le_F, lt_T, lt_F, eq_T, eq_F, cN, plus_n, mul_n, rem_n, div_n, sub_n, re_T, re_F, rl_wr, rd_wl, ne_m1, m1_ne, m1_lt, m1_le, m1_ge, m1_gt, m1_refl, ↓reduceIte, L0, L1, L2, L3, L4, L5, L6, L7, L8, L9, L10, L11, L15, L16, L17, L18, L20, L24, L26, L28, L31, L32, L35, L36, L48, L57, L59, L63, L64, L96, L97, L99, L100, L112, L122, L128, L200, L255, L256, L1000, L1024, L2000, L3000, L1000000, L1000000007, e1, e3]
      exact ⟨rfl, rfl⟩
    · rw [decide_eq_true (by omega)]
      simp (disch := omega) only [md_n, lt_eq, bd_some, gN, gN2, le_T, le_F, lt_T, lt_F, eq_T, eq_F, cN, plus_n, mul_n, rem_n, div_n, sub_n, re_T, re_F, rl_wr, rd_wl, ne_m1, m1_ne, m1_lt, m1_le, m1_ge, m1_gt, m1_refl, ↓reduceIte, L0, L1, L2, L3, L4, L5, L6, L7, L8, L9, L10, L11, L15, L16, L17, L18, L20, L24, L26, L28, L31, L32, L35, L36, L48, L57, L59, L63, L64, L96, L97, L99, L100, L112, L122, L128, L200, L255, L256, L1000, L1024, L2000, L3000, L1000000, L1000000007, e1, e3]
      exact ⟨rfl, rfl⟩
/-! longs that stay -/
def rlE {α : Type} (x : Option (α × St)) (S : St) : Prop := ∀ r S', x = some (r, S') → ∀ c j, rl S' c j = rl S c j
theorem rlE_some {α : Type} {r : α} {S S0 : St} (h : ∀ c j, rl S c j = rl S0 c j) : rlE (some (r, S)) S0 := fun r' S' e => by
  have := Option.some.inj e
  rw [← (Prod.mk.inj this).2]; exact h
theorem rlE_gd {α : Type} {c : Prop} [Decidable c] {x : Option (α × St)} {S : St} (h : rlE x S) : rlE (gd_ c x) S := by
  unfold gd_
  split
  · exact h
  · intro r S' e; cases e
theorem rlE_bd {α β : Type} {x : Option (α × St)} {f : α → St → Option (β × St)} {S : St} (h : rlE x S) (hf : ∀ r S', (∀ c j, rl S' c j = rl S c j) → rlE (f r S') S) : rlE (bd_ x f) S := by
  cases x with
  | none => intro r S' e; cases e
  | some y => obtain ⟨r, S1⟩ := y; exact hf r S1 (h r S1 rfl)
theorem rl_speak (v : Int32) (S : St) : rlE (f_X1_speak v S) S := by
  unfold f_X1_speak
  split
  · exact rlE_some (fun _ _ => rfl)
  · refine rlE_gd ?_
    exact rlE_some (fun c j => by rw [rl_wr, rl_wr])
theorem rlE_tr {α : Type} {x : Option (α × St)} {S S0 : St} (h : rlE x S) (h0 : ∀ c j, rl S c j = rl S0 c j) : rlE x S0 := fun r S' e c j => (h r S' e c j).trans (h0 c j)
theorem rl_spellN (v : Int32) (S : St) : rlE (f_X1_spellNumber v S) S := by
  unfold f_X1_spellNumber
  split
  · refine rlE_bd (rl_speak _ _) (fun r S' h => ?_)
    split
    · exact rlE_some h
    · exact rlE_bd (rlE_tr (rl_speak _ _) h) (fun r S2 h2 => rlE_some h2)
  · exact rlE_bd (rl_speak _ _) (fun r S2 h2 => rlE_some h2)
theorem rl_spellL (K : St → Option (Int32 × St)) (hK : ∀ S, rlE (K S) S) (v1 v2 : Int32) : ∀ f v3 S, rlE (f_X1_spell_L7 K v1 v2 f v3 S) S := by
  intro f
  induction f with
  | zero => intro v3 S r S' e; rw [f_X1_spell_L7] at e; cases e
  | succ f ih =>
    intro v3 S
    rw [f_X1_spell_L7]
    refine rlE_gd ?_
    split
    · exact hK S
    · refine rlE_gd ?_
      rw [lt_eq, lt_eq]
      split
      · exact rlE_bd (rl_spellN _ _) (fun r S2 h2 => rlE_tr (ih _ _) h2)
      · exact rlE_bd (rl_speak _ _) (fun r S2 h2 => rlE_tr (ih _ _) h2)
theorem rl_spell59 : ∀ f v3 S, rlE (f_X1_spell_L59 (fun (S27 : St) => some ((0 : Int32), S27)) (fun (S28 : St) => some ((1 : Int32), S28)) f v3 S) S := by
  intro f
  induction f with
  | zero => intro v3 S r S' e; rw [f_X1_spell_L59] at e; cases e
  | succ f ih =>
    intro v3 S
    rw [f_X1_spell_L59]
    split
    · exact rlE_some (fun _ _ => rfl)
    · refine rlE_gd (rlE_gd ?_)
      split
      · exact rlE_some (fun _ _ => rfl)
      · exact ih _ _
theorem rl_spell (v1 v2 : Int32) (S : St) : rlE (f_X1_spell v1 v2 S) S := by
  unfold f_X1_spell
  rw [lt_eq]
  exact rlE_tr (rl_spellL _ (fun S => rl_spell59 _ _ _) _ _ _ _ _) (fun c j => rl_wr ..)
