/-! ===== the whole text ===== -/
def txtT (B : Nat → Nat) (N : Nat) : Nat → Nat → Nat ⊕ List Rw
  | 0, _ => .inl 0
  | r + 1, p => match rowT B N p with
    | .inl f => .inl f
    | .inr (row, q) => if tK B N q = 0 then .inr [row] else if r = 0 then .inl (tB B N q) else match txtT B N r (tE B N q) with
      | .inl f => .inl f
      | .inr l => .inr (row :: l)
def r0 : Rw := (0, 0, [])
theorem txt_l {B : Nat → Nat} {N r p f : Nat} (h : rowT B N p = .inl f) : txtT B N (r + 1) p = .inl f := by rw [txtT, h]
theorem txt_e {B : Nat → Nat} {N r p q : Nat} {row : Rw} (h : rowT B N p = .inr (row, q)) (hk : tK B N q = 0) : txtT B N (r + 1) p = .inr [row] := by rw [txtT, h]; exact if_pos hk
theorem txt_z {B : Nat → Nat} {N p q : Nat} {row : Rw} (h : rowT B N p = .inr (row, q)) (hk : tK B N q ≠ 0) : txtT B N 1 p = .inl (tB B N q) := by rw [txtT, h]; show (if _ then _ else _) = _; rw [if_neg hk]; exact if_pos rfl
theorem txt_fl {B : Nat → Nat} {N r p q f : Nat} {row : Rw} (h : rowT B N p = .inr (row, q)) (hk : tK B N q ≠ 0) (h2 : txtT B N (r + 1) (tE B N q) = .inl f) : txtT B N (r + 1 + 1) p = .inl f := by rw [txtT, h]; show (if _ then _ else if _ then _ else _) = _; rw [if_neg hk, if_neg (by omega), h2]
theorem txt_fr {B : Nat → Nat} {N r p q : Nat} {row : Rw} {l : List Rw} (h : rowT B N p = .inr (row, q)) (hk : tK B N q ≠ 0) (h2 : txtT B N (r + 1) (tE B N q) = .inr l) : txtT B N (r + 1 + 1) p = .inr (row :: l) := by rw [txtT, h]; show (if _ then _ else if _ then _ else _) = _; rw [if_neg hk, if_neg (by omega), h2]
def Xi (i c j : Nat) : Prop := (c = 20 ∧ 3 ≤ j) ∨ (23 + i ≤ c ∧ c ≤ 32) ∨ (33 + i ≤ c ∧ c ≤ 42)
theorem rowC_keep {n1 i : Nat} {row : Rw} {a b : St} (h : rowC n1 row a) (hn : n1 < i) (hi : i ≤ 10) (hf : fr (Xi i) a b) : rowC n1 row b := by
  obtain ⟨h1, h2, h3, h4⟩ := h
  refine ⟨by rw [hf _ _ (by unfold Xi; omega)]; exact h1, by rw [hf _ _ (by unfold Xi; omega)]; exact h2, fun z => by rw [hf _ _ (by unfold Xi; omega)]; exact h3 z, fun k hk => by rw [hf _ _ (by unfold Xi; omega)]; exact h4 k hk⟩
theorem readL_ok {S : St} {B : Nat → Nat} {N : Nat} (hT : Txt S B N) : ∀ (r i p : Nat) (a : St) (f : Nat), i + r = 10 → 1 ≤ r → p ≤ N → r < f → fr Xt S a → ldC B N p a →
    ∃ a', ((∃ ft, txtT B N r p = .inl ft ∧ f_X9_read_L16 (fun S26 => some ((rd S26 20 5), S26)) (fun S27 => some ((-1 : Int32), S27)) (fun S28 => some ((rd S28 20 5), S28)) (fun S29 => some ((rd S29 20 5), S29)) f (nI i) a = some (nI ft, a')) ∨ (∃ l, txtT B N r p = .inr l ∧ f_X9_read_L16 (fun S26 => some ((rd S26 20 5), S26)) (fun S27 => some ((-1 : Int32), S27)) (fun S28 => some ((rd S28 20 5), S28)) (fun S29 => some ((rd S29 20 5), S29)) f (nI i) a = some (-1, a') ∧ rd a' 20 3 = nI (i + l.length) ∧ i + l.length ≤ 10 ∧ ∀ j, j < l.length → rowC (i + j) (l.getD j r0) a')) ∧ fr (Xi i) a a' := by
  intro r
  induction r with
  | zero => intro i p a f _ h1; omega
  | succ r ih =>
    intro i p a f hi _ hp hf0 hf hl
    obtain ⟨f, rfl⟩ : ∃ g, f = g + 1 := ⟨f - 1, by omega⟩
    obtain ⟨a1, g1, h⟩ := readRow_ok (n1 := i) hT hf hp (by omega) hl
    have g1' : fr (Xi i) a a1 := g1.mono (fun c j h => by unfold Xr at h; unfold Xi; omega)
    rw [f_X9_read_L16, if_neg (show ¬ (10 : Int32) ≤ nI i from of_eq_false (le_F (a := 10) (by omega))), gd_t (inb_n (show i < 10 by omega) (by decide)), cl_n (by omega)]
    rcases h with ⟨ft, p1, p2, p3⟩ | ⟨row, q, p1, p2, p3, p4, p5⟩
    · rw [p2, bd_some, if_pos rfl]
      exact ⟨a1, Or.inl ⟨ft, txt_l p1, by rw [p3]⟩, g1'⟩
    · rw [p1, bd_some, if_neg (by decide), lt_eq, show nI i + (1 : Int32) = nI (i + 1) from plus_n i 1]
      generalize ha2 : wr a1 20 3 (nI (i + 1)) = a2
      have g2 : fr (fun c j => c = 20 ∧ j = 3) a1 a2 := by rw [← ha2]; exact (fr.refl _ _).wr (by omega)
      have g2' : fr (Xi i) a a2 := g1'.trans (g2.mono (fun c j h => by unfold Xi; omega))
      have hf2 : fr Xt S a2 := (Xr_t (show i < 10 by omega) hf g1).trans (g2.mono (fun c j h => by unfold Xt; omega))
      have hl2 : ldC B N q a2 := ⟨by rw [g2 _ _ (by omega)]; exact p3.1, by rw [g2 _ _ (by omega)]; exact p3.2.1, by rw [g2 _ _ (by omega)]; exact p3.2.2⟩
      have hsg := signC_ok (x := 59) hT hf2 p2 (by omega) hl2
      have h203 : rd a2 20 3 = nI (i + 1) := by rw [← ha2, rw_eq]
      obtain ⟨z1, z2, z3, z4, z5, z6, -⟩ := tok_facts B p2
      rw [hl2.2.2]
      by_cases k0 : tK B N q = 0
      · have ht : term B N q = true := by unfold term; rw [decide_eq_true k0]; rfl
        rw [if_pos ht] at p4
        rw [if_pos (by rw [k0]; rfl)]
        refine ⟨a2, Or.inr ⟨[row], txt_e p4 k0, rfl, h203, by show i + 1 ≤ 10; omega, fun j hj => ?_⟩, g2'⟩
        have : j = 0 := by simp at hj; omega
        subst this
        obtain ⟨h1, h2, h3, h4⟩ := p5 ht
        exact ⟨by rw [Nat.add_zero, g2 _ _ (by omega)]; exact h1, by rw [Nat.add_zero, g2 _ _ (by omega)]; exact h2, fun z => by rw [Nat.add_zero, g2 _ _ (by omega)]; exact h3 z, fun k hk => by rw [Nat.add_zero, g2 _ _ (by omega)]; exact h4 k hk⟩
      · rw [if_neg (show ¬ nI (tK B N q) = 0 from of_eq_false (eq_F (b := 0) (by omega))), show f_X9_isSign 59 a2 = _ from hsg, bd_some]
        cases hs : (decide (tK B N q = 3) && decide (B (tB B N q) = 59))
        · have ht : term B N q = false := by unfold term; rw [decide_eq_false k0, hs]; rfl
          rw [if_neg (by rw [ht]; decide)] at p4
          rw [if_pos (by decide)]
          exact ⟨a2, Or.inl ⟨tB B N q, txt_l p4, by rw [hl2.1]⟩, g2'⟩
        · have ht : term B N q = true := by unfold term; rw [hs, Bool.or_true]
          rw [if_pos ht] at p4
          rw [if_neg (by decide), h203]
          cases r with
          | zero =>
            rw [if_pos (by rw [show i + 1 = 10 by omega]; rfl)]
            exact ⟨a2, Or.inl ⟨tB B N q, txt_z p4 k0, by rw [hl2.1]⟩, g2'⟩
          | succ r =>
            rw [if_neg (show ¬ nI (i + 1) = (10 : Int32) from of_eq_false (eq_F (b := 10) (by omega)))]
            obtain ⟨a3, o1, o2, o3⟩ := step_ok (S := S) (a := a2) hT hf2 z4 hl2.2.1
            rw [o1, bd_some, lt_eq]
            have g3 : fr (Xi i) a a3 := g2'.trans (o3.mono (fun c j h => by unfold Xi; omega))
            obtain ⟨a4, q1, q2⟩ := ih (i + 1) (tE B N q) a3 f (by omega) (by omega) z4 (by omega) (hf2.trans (o3.mono (fun c j h => by unfold Xt; omega))) o2
            refine ⟨a4, ?_, g3.trans (q2.mono (fun c j h => by unfold Xi at h ⊢; omega))⟩
            rcases q1 with ⟨ft, q3, q4⟩ | ⟨l, q3, q4, q5, q6, q7⟩
            · exact Or.inl ⟨ft, txt_fl p4 k0 q3, q4⟩
            · refine Or.inr ⟨row :: l, txt_fr p4 k0 q3, q4, by rw [q5, List.length_cons, show i + 1 + l.length = i + (l.length + 1) by omega], by rw [List.length_cons]; omega, fun j hj => ?_⟩
              cases j with
              | zero =>
                obtain ⟨h1, h2, h3, h4⟩ := p5 ht
                have e : ∀ c j, c ≠ 20 → c ≠ 20 → (c = 23 + i ∨ c = 33 + i) → rd a4 c j = rd a1 c j := fun c j h1 _ h2 => by rw [q2 _ _ (by unfold Xi; omega), o3 _ _ (by omega), g2 _ _ (by omega)]
                refine ⟨by rw [Nat.add_zero, e _ _ (by omega) (by omega) (by omega)]; exact h1, by rw [Nat.add_zero, e _ _ (by omega) (by omega) (by omega)]; exact h2, fun z => by rw [Nat.add_zero, e _ _ (by omega) (by omega) (by omega)]; exact h3 z, fun k hk => by rw [Nat.add_zero, e _ _ (by omega) (by omega) (by omega)]; exact h4 k hk⟩
              | succ j =>
                have := q7 j (by simp at hj; omega)
                rw [show i + (j + 1) = i + 1 + j by omega]; exact this
theorem read_ok {S : St} {B : Nat → Nat} {N : Nat} (hT : Txt S B N) : ∃ a', ((∃ ft, txtT B N 10 0 = .inl ft ∧ f_X9_read S = some (nI ft, a')) ∨ (∃ l, txtT B N 10 0 = .inr l ∧ f_X9_read S = some (-1, a') ∧ rd a' 20 3 = nI l.length ∧ l.length ≤ 10 ∧ ∀ j, j < l.length → rowC j (l.getD j r0) a')) ∧ fr Xt S a' := by
  unfold f_X9_read
  rw [lt_eq, lt_eq]
  have g0 : fr Xt S (wr (wr S 20 3 0) 20 6 0) := ((fr.refl _ _).wr (by unfold Xt; omega)).wr (by unfold Xt; omega)
  obtain ⟨a1, o1, o2, o3⟩ := step_ok (S := S) (a := wr (wr S 20 3 0) 20 6 0) (e := 0) hT g0 (Nat.zero_le _) rw_eq
  rw [o1, bd_some]
  have g1 : fr Xt S a1 := g0.trans (o3.mono (fun c j h => by unfold Xt; omega))
  obtain ⟨a2, q1, q2⟩ := readL_ok hT 10 0 0 a1 FU (by omega) (by omega) (Nat.zero_le _) (by unfold FU; omega) g1 o2
  refine ⟨a2, ?_, g1.trans (q2.mono (fun c j h => by unfold Xi at h; unfold Xt; omega))⟩
  rcases q1 with ⟨ft, p1, p2⟩ | ⟨l, p1, p2, p3, p4, p5⟩
  · exact Or.inl ⟨ft, p1, p2⟩
  · refine Or.inr ⟨l, p1, p2, by rw [p3, Nat.zero_add], by omega, fun j hj => ?_⟩
    have := p5 j hj
    rw [Nat.zero_add] at this; exact this
