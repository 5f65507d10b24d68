def Xz (i c j : Nat) : Prop := (c = 54 ∧ 14 ≤ j ∧ j ≤ 20) ∨ (c = 66 ∧ 11 * i ≤ j)
theorem Xz_txt {a b : St} {B : Nat → Nat} {N i : Nat} (hT : TxtM a B N) (hf : fr (Xz i) a b) : TxtM b B N := hT.cg (hf _ _ (by unfold Xz; omega)) (hf _ _ (by unfold Xz; omega)) (fun j => hf _ _ (by unfold Xz; omega)) (fun j => hf _ _ (by unfold Xz; omega))
def KR1 (S16 : St) : Option (Int32 × St) := some ((0 : Int32), S16)
def KR2 (S17 : St) : Option (Int32 × St) :=
      lt_ (fun  (S18 : St) =>
          some ((1 : Int32), S18)) fun J89 =>
      if (lg_cmp (rl S17 54 16) (-2 : Int64)) = 0 then
        J89  S17
      else
        bd_ (f_X11_fails  S17) fun r20 S21 =>
        if r20 = 0 then
          some ((0 : Int32), S21)
        else
          J89  S21
theorem readML_ok {B : Nat → Nat} {N : Nat} : ∀ (r i p : Nat) (a : St) (f : Nat), i + r = 10 → 1 ≤ r → p ≤ N → r + 1 < f → TxtM a B N → rd a 54 14 = nI p → rd a 54 20 = nI i →
    ∃ a', ((∃ ft, txtT B N r p = .inl ft ∧ f_X11_isRead_L12 KR1 KR2 f (nI 1) a = some (0, a') ∧ rd a' 54 19 = nI ft) ∨ (∃ l, txtT B N r p = .inr l ∧ f_X11_isRead_L12 KR1 KR2 f (nI 1) a = some (1, a') ∧ rd a' 54 20 = nI (i + l.length) ∧ i + l.length ≤ 10 ∧ ∀ j, j < l.length → rowM (11 * (i + j)) (l.getD j r0) a')) ∧ fr (Xz i) a a' := by
  intro r
  induction r with
  | zero => intro i p a f _ h1; omega
  | succ r ih =>
    intro i p a f hi _ hp hf0 hT h14 h20
    obtain ⟨f, rfl⟩ : ∃ g, f = g + 1 := ⟨f - 1, by omega⟩
    obtain ⟨f', rfl⟩ : ∃ g, f = g + 1 := ⟨f - 1, by omega⟩
    obtain ⟨a1, g1, h⟩ := isRowOfText_ok (w := 11 * i) hT hp (by omega) h14
    have g1' : fr (Xz i) a a1 := g1.mono (fun c j h => by unfold Xv at h; unfold Xz; omega)
    have h201 : rd a1 54 20 = nI i := by rw [g1 _ _ (by unfold Xv; omega)]; exact h20
    have hhead : f_X11_isRead_L12 KR1 KR2 (f' + 1 + 1) (nI 1) a = bd_ (f_X11_isRowOfText (nI (11 * i)) a) (fun r7 S8 =>
      if r7 = 0 then
        KR1  S8
      else
        lt_ (wr S8 54 20 ((rd S8 54 20) + (1 : Int32))) fun S10 =>
        lt_ (fun (t11 : Int32) (S12 : St) =>
            f_X11_isRead_L12 KR1 KR2 (f' + 1) t11 S12) fun J67 =>
        lt_ (fun  (S13 : St) =>
            J67 (0 : Int32) S13) fun J66 =>
        if (lg_cmp (rl S10 54 16) (-3 : Int64)) = 0 then
          if (10 : Int32) ≤ (rd S10 54 20) then
            J66  S10
          else
            J67 (1 : Int32) S10
        else
          J66  S10) := by
      rw [f_X11_isRead_L12, if_neg (by decide), h20, show (11 : Int32) * nI i = nI (11 * i) from mul_n 11 i]
    rw [hhead]
    rcases h with ⟨ft, p1, p2, p3⟩ | ⟨row, q, p1, p2, p3, p4, p5⟩
    · rw [p2, bd_some, if_pos rfl]
      exact ⟨a1, Or.inl ⟨ft, txt_l p1, rfl, p3⟩, g1'⟩
    · rw [p1, bd_some, if_neg (by decide), lt_eq, h201, show nI i + (1 : Int32) = nI (i + 1) from plus_n i 1]
      generalize ha2 : wr a1 54 20 (nI (i + 1)) = a2
      have g2 : fr (fun c j => c = 54 ∧ j = 20) a1 a2 := by rw [← ha2]; exact (fr.refl _ _).wr (by omega)
      have g2' : fr (Xz i) a a2 := g1'.trans (g2.mono (fun c j h => by unfold Xz; omega))
      have hrl : rl a2 54 16 = tokV B N q := by rw [← ha2, rl_wr]; exact p3.2.2.1
      have h15 : rd a2 54 15 = nI (tB B N q) := by rw [g2 _ _ (by omega)]; exact p3.1
      have h202 : rd a2 54 20 = nI (i + 1) := by rw [← ha2, rw_eq]
      obtain ⟨z1, z2, z3, z4, z5, z6, -⟩ := tok_facts B p2
      have hte := tokV_end (B := B) p2
      rw [lt_eq, lt_eq, hrl, h202]
      -- the end of it
      have hend : f_X11_isRead_L12 KR1 KR2 (f' + 1) 0 a2 = KR2 a2 := by rw [f_X11_isRead_L12, if_pos rfl]
      have hK2a : tK B N q = 0 → KR2 a2 = some (1, a2) := fun k0 => by unfold KR2; rw [lt_eq, hrl, if_pos (lg0.mpr (hte.1.mpr k0))]
      have hK2b : tK B N q ≠ 0 → KR2 a2 = some (0, wr a2 54 19 (nI (tB B N q))) := fun k0 => by unfold KR2; rw [lt_eq, hrl, if_neg (fun z => k0 (hte.1.mp (lg0.mp z))), fails_ok h15, bd_some, if_pos rfl]
      by_cases k0 : tK B N q = 0
      · have ht : term B N q = true := by unfold term; rw [decide_eq_true k0]; rfl
        rw [if_pos ht] at p4
        rw [if_neg (fun z => by have := (hte.2.mp (lg0.mp z)).1; omega)]
        refine ⟨a2, Or.inr ⟨[row], txt_e p4 k0, by rw [← hK2a k0]; exact hend, h202, by show i + 1 ≤ 10; omega, fun j hj => ?_⟩, g2'⟩
        have : j = 0 := by simp at hj; omega
        subst this
        obtain ⟨h1, h2, h3, h4⟩ := p5 ht
        rw [Nat.add_zero]
        exact ⟨by rw [g2 _ _ (by omega)]; exact h1, by rw [g2 _ _ (by omega)]; exact h2, fun z => ⟨by rw [g2 _ _ (by omega)]; exact (h3 z).1, fun k hk => by rw [g2 _ _ (by omega)]; exact (h3 z).2 k hk⟩, fun z => by rw [g2 _ _ (by omega)]; exact h4 z⟩
      · by_cases k3 : tK B N q = 3 ∧ B (tB B N q) = 59
        · have ht : term B N q = true := by unfold term; rw [decide_eq_true k3.1, decide_eq_true k3.2, Bool.and_self, Bool.or_true]
          rw [if_pos ht] at p4
          rw [if_pos (lg0.mpr (hte.2.mpr k3))]
          cases r with
          | zero =>
            rw [if_pos (show (10 : Int32) ≤ nI (i + 1) from of_eq_true (le_T (a := 10) (by omega)))]
            exact ⟨wr a2 54 19 (nI (tB B N q)), Or.inl ⟨tB B N q, txt_z p4 k0, by rw [← hK2b k0]; exact hend, rw_eq⟩, g2'.wr (by unfold Xz; omega)⟩
          | succ r =>
            rw [if_neg (show ¬ (10 : Int32) ≤ nI (i + 1) from of_eq_false (le_F (a := 10) (by omega)))]
            obtain ⟨a4, q1, q2⟩ := ih (i + 1) (tE B N q) a2 (f' + 1) (by omega) (by omega) z4 (by omega) (Xz_txt hT g2') (by rw [g2 _ _ (by omega)]; exact p3.2.1) h202
            refine ⟨a4, ?_, g2'.trans (q2.mono (fun c j h => by unfold Xz at h ⊢; omega))⟩
            rcases q1 with ⟨ft, q3, q4, q5⟩ | ⟨l, q3, q4, q5, q6, q7⟩
            · exact Or.inl ⟨ft, txt_fl p4 k0 q3, q4, q5⟩
            · refine Or.inr ⟨row :: l, txt_fr p4 k0 q3, q4, by rw [q5, List.length_cons, show i + 1 + l.length = i + (l.length + 1) by omega], by rw [List.length_cons]; omega, fun j hj => ?_⟩
              cases j with
              | zero =>
                obtain ⟨h1, h2, h3, h4⟩ := p5 ht
                rw [Nat.add_zero]
                have e : ∀ j, 11 * i ≤ j → j < 11 * i + 11 → rd a4 66 j = rd a1 66 j := fun j h1 h2 => by rw [q2 _ _ (by unfold Xz; omega), g2 _ _ (by omega)]
                have hlen : row.1 ≤ 1 → row.2.2.length ≤ 8 := fun z => by rcases rowT_ok hp p4 with h | h | h | h <;> omega
                show rowM (11 * i) row a4
                refine ⟨by rw [e _ (by omega) (by omega)]; exact h1, by rw [e _ (by omega) (by omega)]; exact h2, fun z => ⟨by rw [e _ (by omega) (by omega)]; exact (h3 z).1, fun k hk => ?_⟩, fun z => by rw [e _ (by omega) (by omega)]; exact h4 z⟩
                have := hlen z
                rw [e _ (by omega) (by omega)]; exact (h3 z).2 k hk
              | succ j =>
                have := q7 j (by simp at hj; omega)
                rw [show i + (j + 1) = i + 1 + j by omega]; exact this
        · have ht : term B N q = false := by
            unfold term
            rw [decide_eq_false k0, Bool.false_or]
            cases hh : (decide (tK B N q = 3) && decide (B (tB B N q) = 59))
            · rfl
            · rw [Bool.and_eq_true] at hh
              exact absurd ⟨of_decide_eq_true hh.1, of_decide_eq_true hh.2⟩ k3
          rw [if_neg (by rw [ht]; decide)] at p4
          rw [if_neg (fun z => k3 (hte.2.mp (lg0.mp z)))]
          exact ⟨wr a2 54 19 (nI (tB B N q)), Or.inl ⟨tB B N q, txt_l p4, by rw [← hK2b k0]; exact hend, rw_eq⟩, g2'.wr (by unfold Xz; omega)⟩
