/-! ===== rows that are read are well told ===== -/
def rwOK (row : Rw) : Prop := (row.1 = 0 ∧ row.2.1 < 32 ∧ 1 ≤ row.2.2.length ∧ row.2.2.length ≤ 8 ∧ ∀ i, i < row.2.2.length → row.2.2.getD i 0 < 16) ∨ (row.1 = 1 ∧ row.2.1 < 8 ∧ 1 ≤ row.2.2.length ∧ row.2.2.length ≤ 8 ∧ ∀ i, i < row.2.2.length → row.2.2.getD i 0 = 100 ∨ row.2.2.getD i 0 < 32) ∨ (row.1 = 2 ∧ row.2.1 < 100) ∨ ((row.1 = 3 ∨ row.1 = 4) ∧ row.2.1 < 6 ∧ row.2.2.length = 1 ∧ row.2.2.getD 0 0 < 6 ∧ row.2.2.getD 0 0 ≠ row.2.1)
theorem fin_ok {B : Nat → Nat} {N q p : Nat} {row row' : Rw} (h : fin B N row p = .inr (row', q)) : row' = row := by
  unfold fin at h
  split at h
  · have := Sum.inr.inj h
    exact (congrArg Prod.fst this).symm
  · cases h
theorem prt_ok {B : Nat → Nat} {N p x : Nat} (h : prt B N p = some x) : x = 100 ∨ x < 32 := by
  unfold prt at h
  split at h
  · left; exact (Option.some.inj h).symm
  · right; exact (numB_some.mp h).2
theorem partsT_ok {B : Nat → Nat} {N : Nat} : ∀ (r p : Nat) (l : List Nat) (q : Nat), partsT B N r p = .inr (l, q) → 1 ≤ l.length ∧ l.length ≤ r ∧ ∀ i, i < l.length → l.getD i 0 = 100 ∨ l.getD i 0 < 32 := by
  intro r
  induction r with
  | zero => intro p l q h; rw [partsT] at h; cases h
  | succ r ih =>
    intro p l q h
    rw [partsT] at h
    cases hp : prt B N p with
    | none => rw [hp] at h; cases h
    | some x =>
      rw [hp] at h
      replace h : (if term B N (tE B N p) = true then .inr ([x], tE B N p) else match partsT B N r (tE B N p) with | .inl f => .inl f | .inr (l, q) => .inr (x :: l, q) : Nat ⊕ (List Nat × Nat)) = .inr (l, q) := by
        rw [← h]
        split
        · rfl
        · cases partsT B N r (tE B N p) <;> rfl
      have hx := prt_ok hp
      split at h
      · have e : [x] = l := congrArg Prod.fst (Sum.inr.inj h)
        subst e
        refine ⟨Nat.le_refl _, by show 1 ≤ r + 1; omega, fun i hi => ?_⟩
        have : i = 0 := by simp at hi; omega
        subst this; exact hx
      · cases hpp : partsT B N r (tE B N p) with
        | inl f => rw [hpp] at h; cases h
        | inr y =>
          obtain ⟨l', q'⟩ := y
          rw [hpp] at h
          have e : x :: l' = l := congrArg Prod.fst (Sum.inr.inj h)
          subst e
          obtain ⟨i1, i2, i3⟩ := ih _ _ _ hpp
          refine ⟨by rw [List.length_cons]; omega, by rw [List.length_cons]; omega, fun i hi => ?_⟩
          cases i with
          | zero => exact hx
          | succ i => exact i3 i (by simp at hi; omega)
theorem two_ok {B : Nat → Nat} {N k p q : Nat} {row : Rw} (hk : k = 3 ∨ k = 4) (h : two B N k p = .inr (row, q)) : rwOK row := by
  cases h1 : numB B N p 6 with
  | none => rw [two_l h1] at h; cases h
  | some a =>
    cases h2 : numB B N (tE B N p) 6 with
    | none => rw [two_m h1 (Or.inl h2)] at h; cases h
    | some b =>
      by_cases d : b = a
      · rw [two_m h1 (Or.inr (by rw [h2, d]))] at h; cases h
      · rw [two_r h1 h2 d] at h
        rw [fin_ok h]
        exact Or.inr (Or.inr (Or.inr ⟨hk, (numB_some.mp h1).2, rfl, (numB_some.mp h2).2, d⟩))
theorem rowT_ok {B : Nat → Nat} {N p q : Nat} {row : Rw} (hp : p ≤ N) (h : rowT B N p = .inr (row, q)) : rwOK row := by
  obtain ⟨y1, y2, y3, y4, -⟩ := tok_facts B hp
  have y5 := (tok_facts B y4).2.2.2.1
  have y6 := (tok_facts B y5).2.2.2.1
  unfold rowT at h
  split at h
  · unfold rowW at h
    cases h1 : numB B N (tE B N p) 32 with
    | none => rw [h1] at h; cases h
    | some a =>
      rw [h1] at h
      by_cases hw : wIs B N (tE B N (tE B N p)) 1 = true
      · cases h2 : sndS B N (tE B N (tE B N (tE B N p))) with
        | none =>
          replace h : (Sum.inl (tB B N (tE B N (tE B N (tE B N p)))) : Nat ⊕ (Rw × Nat)) = .inr (row, q) := by
            rw [← h]; symm; show (if _ then _ else _) = _; rw [if_pos hw, h2]
          cases h
        | some l =>
          replace h : fin B N (0, a, l) (tE B N (tE B N (tE B N (tE B N p)))) = .inr (row, q) := by
            rw [← h]; symm; show (if _ then _ else _) = _; rw [if_pos hw, h2]
          rw [fin_ok h]
          unfold sndS at h2
          split at h2
          · next c =>
            rw [← Option.some.inj h2]
            obtain ⟨c1, c2, c3⟩ := c
            have y10 := (tok_facts B y6).2.2.2.2.2.2.2.2.2 (Or.inl c1)
            refine Or.inl ⟨rfl, (numB_some.mp h1).2, ?_, ?_, fun i hi => ?_⟩
            · show 1 ≤ (ltrs _ _ _).length; rw [ltrs_len]; omega
            · show (ltrs _ _ _).length ≤ 8; rw [ltrs_len]; exact c2
            · have hi' : i < (ltrs B (tB B N (tE B N (tE B N (tE B N p)))) (tE B N (tE B N (tE B N (tE B N p))) - tB B N (tE B N (tE B N (tE B N p))))).length := hi
              rw [ltrs_len] at hi'
              show (ltrs _ _ _).getD i 0 < 16
              rw [ltrs_get _ _ _ _ hi']
              have := c3 i hi'
              omega
          · cases h2
      · replace h : (Sum.inl (tB B N (tE B N (tE B N p))) : Nat ⊕ (Rw × Nat)) = .inr (row, q) := by
          rw [← h]; symm; exact if_neg hw
        cases h
  · split at h
    · unfold rowL at h
      cases h1 : numB B N (tE B N p) 8 with
      | none => rw [h1] at h; cases h
      | some a =>
        rw [h1] at h
        by_cases hw : wIs B N (tE B N (tE B N p)) 1 = true
        · cases h2 : partsT B N 8 (tE B N (tE B N (tE B N p))) with
          | inl f =>
            replace h : (Sum.inl f : Nat ⊕ (Rw × Nat)) = .inr (row, q) := by
              rw [← h]; symm; show (if _ then _ else _) = _; rw [if_pos hw, h2]
            cases h
          | inr y =>
            obtain ⟨l, q'⟩ := y
            replace h : (Sum.inr ((1, a, l), q') : Nat ⊕ (Rw × Nat)) = .inr (row, q) := by
              rw [← h]; symm; show (if _ then _ else _) = _; rw [if_pos hw, h2]
            have e : (1, a, l) = row := congrArg Prod.fst (Sum.inr.inj h)
            rw [← e]
            obtain ⟨i1, i2, i3⟩ := partsT_ok _ _ _ _ h2
            exact Or.inr (Or.inl ⟨rfl, (numB_some.mp h1).2, i1, i2, i3⟩)
        · replace h : (Sum.inl (tB B N (tE B N (tE B N p))) : Nat ⊕ (Rw × Nat)) = .inr (row, q) := by
            rw [← h]; symm; exact if_neg hw
          cases h
    · split at h
      · unfold rowU at h
        cases h1 : numB B N (tE B N p) 100 with
        | none => rw [h1] at h; cases h
        | some a =>
          rw [h1] at h
          rw [fin_ok h]
          exact Or.inr (Or.inr (Or.inl ⟨rfl, (numB_some.mp h1).2⟩))
      · split at h
        · exact two_ok (Or.inl rfl) h
        · split at h
          · exact two_ok (Or.inr rfl) h
          · cases h
theorem fin_q {B : Nat → Nat} {N q p : Nat} {row row' : Rw} (hp : p ≤ N) (h : fin B N row p = .inr (row', q)) : q ≤ N := by
  unfold fin at h
  split at h
  · have := congrArg Prod.snd (Sum.inr.inj h)
    have e : p = q := this
    omega
  · cases h
theorem partsT_q {B : Nat → Nat} {N : Nat} : ∀ (r p : Nat) (l : List Nat) (q : Nat), p ≤ N → partsT B N r p = .inr (l, q) → q ≤ N := by
  intro r
  induction r with
  | zero => intro p l q _ h; rw [partsT] at h; cases h
  | succ r ih =>
    intro p l q hp h
    have y4 := (tok_facts B hp).2.2.2.1
    rw [partsT] at h
    cases hpr : prt B N p with
    | none => rw [hpr] at h; cases h
    | some x =>
      rw [hpr] at h
      replace h : (if term B N (tE B N p) = true then .inr ([x], tE B N p) else match partsT B N r (tE B N p) with | .inl f => .inl f | .inr (l, q) => .inr (x :: l, q) : Nat ⊕ (List Nat × Nat)) = .inr (l, q) := by
        rw [← h]
        split
        · rfl
        · cases partsT B N r (tE B N p) <;> rfl
      split at h
      · have e : tE B N p = q := congrArg Prod.snd (Sum.inr.inj h)
        omega
      · cases hpp : partsT B N r (tE B N p) with
        | inl f => rw [hpp] at h; cases h
        | inr y =>
          obtain ⟨l', q'⟩ := y
          rw [hpp] at h
          have e : q' = q := congrArg Prod.snd (Sum.inr.inj h)
          rw [← e]
          exact ih _ _ _ y4 hpp
theorem two_q {B : Nat → Nat} {N k p q : Nat} {row : Rw} (hp : p ≤ N) (h : two B N k p = .inr (row, q)) : q ≤ N := by
  have y4 := (tok_facts B hp).2.2.2.1
  have y5 := (tok_facts B y4).2.2.2.1
  cases h1 : numB B N p 6 with
  | none => rw [two_l h1] at h; cases h
  | some a =>
    cases h2 : numB B N (tE B N p) 6 with
    | none => rw [two_m h1 (Or.inl h2)] at h; cases h
    | some b =>
      by_cases d : b = a
      · rw [two_m h1 (Or.inr (by rw [h2, d]))] at h; cases h
      · rw [two_r h1 h2 d] at h
        exact fin_q y5 h
theorem rowT_q {B : Nat → Nat} {N p q : Nat} {row : Rw} (hp : p ≤ N) (h : rowT B N p = .inr (row, q)) : q ≤ N := by
  obtain ⟨y1, y2, y3, y4, -⟩ := tok_facts B hp
  have y5 := (tok_facts B y4).2.2.2.1
  have y6 := (tok_facts B y5).2.2.2.1
  have y7 := (tok_facts B y6).2.2.2.1
  unfold rowT at h
  split at h
  · unfold rowW at h
    cases h1 : numB B N (tE B N p) 32 with
    | none => rw [h1] at h; cases h
    | some a =>
      rw [h1] at h
      by_cases hw : wIs B N (tE B N (tE B N p)) 1 = true
      · cases h2 : sndS B N (tE B N (tE B N (tE B N p))) with
        | none =>
          replace h : (Sum.inl (tB B N (tE B N (tE B N (tE B N p)))) : Nat ⊕ (Rw × Nat)) = .inr (row, q) := by
            rw [← h]; symm; show (if _ then _ else _) = _; rw [if_pos hw, h2]
          cases h
        | some l =>
          replace h : fin B N (0, a, l) (tE B N (tE B N (tE B N (tE B N p)))) = .inr (row, q) := by
            rw [← h]; symm; show (if _ then _ else _) = _; rw [if_pos hw, h2]
          exact fin_q y7 h
      · replace h : (Sum.inl (tB B N (tE B N (tE B N p))) : Nat ⊕ (Rw × Nat)) = .inr (row, q) := by
          rw [← h]; symm; exact if_neg hw
        cases h
  · split at h
    · unfold rowL at h
      cases h1 : numB B N (tE B N p) 8 with
      | none => rw [h1] at h; cases h
      | some a =>
        rw [h1] at h
        by_cases hw : wIs B N (tE B N (tE B N p)) 1 = true
        · cases h2 : partsT B N 8 (tE B N (tE B N (tE B N p))) with
          | inl f =>
            replace h : (Sum.inl f : Nat ⊕ (Rw × Nat)) = .inr (row, q) := by
              rw [← h]; symm; show (if _ then _ else _) = _; rw [if_pos hw, h2]
            cases h
          | inr y =>
            obtain ⟨l, q'⟩ := y
            replace h : (Sum.inr ((1, a, l), q') : Nat ⊕ (Rw × Nat)) = .inr (row, q) := by
              rw [← h]; symm; show (if _ then _ else _) = _; rw [if_pos hw, h2]
            have e : q' = q := congrArg Prod.snd (Sum.inr.inj h)
            rw [← e]
            exact partsT_q _ _ _ _ y6 h2
        · replace h : (Sum.inl (tB B N (tE B N (tE B N p))) : Nat ⊕ (Rw × Nat)) = .inr (row, q) := by
            rw [← h]; symm; exact if_neg hw
          cases h
    · split at h
      · unfold rowU at h
        cases h1 : numB B N (tE B N p) 100 with
        | none => rw [h1] at h; cases h
        | some a =>
          rw [h1] at h
          exact fin_q y5 h
      · split at h
        · exact two_q y4 h
        · split at h
          · exact two_q y4 h
          · cases h
theorem txtT_ok {B : Nat → Nat} {N : Nat} : ∀ (r p : Nat) (l : List Rw), p ≤ N → txtT B N r p = .inr l → l.length ≤ r ∧ ∀ j, j < l.length → rwOK (l.getD j r0) := by
  intro r
  induction r with
  | zero => intro p l _ h; rw [txtT] at h; cases h
  | succ r ih =>
    intro p l hp h
    cases hr : rowT B N p with
    | inl f => rw [txt_l hr] at h; cases h
    | inr y =>
      obtain ⟨row, q⟩ := y
      have hok := rowT_ok hp hr
      have one : ∀ j, j < [row].length → rwOK ([row].getD j r0) := fun j hj => by
        have : j = 0 := by simp at hj; omega
        subst this; exact hok
      by_cases k0 : tK B N q = 0
      · rw [txt_e hr k0] at h
        rw [← Sum.inr.inj h]
        exact ⟨by show 1 ≤ r + 1; omega, one⟩
      · cases r with
        | zero => rw [txt_z hr k0] at h; cases h
        | succ r =>
          have z4 := (tok_facts B (rowT_q hp hr)).2.2.2.1
          cases ht : txtT B N (r + 1) (tE B N q) with
          | inl f => rw [txt_fl hr k0 ht] at h; cases h
          | inr l' =>
            rw [txt_fr hr k0 ht] at h
            rw [← Sum.inr.inj h]
            obtain ⟨i1, i2⟩ := ih _ _ z4 ht
            refine ⟨by rw [List.length_cons]; omega, fun j hj => ?_⟩
            cases j with
            | zero => exact hok
            | succ j => exact i2 j (by simp at hj; omega)
