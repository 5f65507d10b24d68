/-! ===== the law, whole ===== -/
theorem ite_one {c : Prop} [Decidable c] {x y : Option Int32} (h1 : x = some 1) (h2 : y = some 1) : (if c then x else y) = some 1 := by
  split
  · exact h1
  · exact h2
theorem law_lt {L n : Nat} (hL : L ≤ 3584) (hn : n ≤ 4000) (h : L < n + 7) : nI L - (7 : Int32) < nI n := by
  rw [show (7 : Int32) = nI 7 from rfl]
  by_cases c : 7 ≤ L
  · rw [sub_n c]; exact of_eq_true (lt_T (by omega))
  · exact Int32.lt_of_lt_of_le (pk_sneg (a := L) (b := 7) (by decide) (by omega)) (nI_pos' (by omega))
theorem law_ge {L n : Nat} (hL : L ≤ 3584) (h : n + 7 ≤ L) : ¬ nI L - (7 : Int32) < nI n := by
  rw [show (7 : Int32) = nI 7 from rfl, sub_n (by omega)]
  exact of_eq_false (lt_F (by omega))
theorem law_gd {L n : Nat} (hL : L ≤ 3584) (h : n + 7 ≤ L) : Gd (nI n) L := by
  have k : ∀ i, i ≤ 6 → inb (nI n + nI i) L := fun i hi => by rw [plus_n]; exact inb_n (by omega) (by omega)
  exact ⟨k 1 (by omega), k 2 (by omega), k 3 (by omega), k 4 (by omega), k 5 (by omega), k 6 (by omega)⟩
theorem law_all {L : Nat} {xs : Nat → Int32} (hL : L ≤ 3584) : ∀ (d n f : Nat) (S : St), L ≤ n + 7 * d + 6 → n ≤ 4000 → d < f → Inv S → f_law_L xs L f (nI n) S = some 1 := by
  intro d
  induction d with
  | zero =>
    intro n f S h1 h2 h3 _
    obtain ⟨f, rfl⟩ : ∃ g, f = g + 1 := ⟨f - 1, by omega⟩
    rw [f_law_L, if_pos (law_lt hL h2 (by omega))]
  | succ d ih =>
    intro n f S h1 h2 h3 hI
    obtain ⟨f, rfl⟩ : ∃ g, f = g + 1 := ⟨f - 1, by omega⟩
    by_cases c : n + 7 ≤ L
    · have G := law_gd hL c
      have hJ : ∀ S', Inv S' → (fun (S : St) => lt_ (nI n + (7 : Int32)) fun x => f_law_L xs L f x S) S' = some 1 := fun S' hS' => by
        show lt_ (nI n + (7 : Int32)) (fun x => f_law_L xs L f x S') = some 1
        rw [lt_eq, show nI n + (7 : Int32) = nI (n + 7) from plus_n n 7]
        exact ih (n + 7) f S' (by omega) (by omega) (by omega) hS'
      rw [f_law_L, if_neg (law_ge hL c), gd_t (inb_n (by omega) (by omega)), lt_eq]
      refine ite_one (law_c0 G hI hJ) (ite_one (law_c1 G hI hJ) (ite_one (law_c2 G hI hJ) (ite_one (law_c3 G hI hJ) (ite_one (law_c4 G hI hJ) (ite_one (law_c5 G hI hJ) (ite_one (law_c6 G hI hJ) (ite_one (law_c7 G hI hJ) (ite_one (law_c8 G hI hJ) (ite_one (law_c9 G hI hJ) (ite_one (law_c10 G hI hJ) (ite_one (law_c11 G hI hJ) (ite_one (law_c12 G hI hJ) (ite_one (law_c13 G hI hJ) (ite_one (law_c14 G hI hJ) (ite_one (law_c15 G hI hJ) (ite_one (law_c16 G hI hJ) (ite_one (law_c17 G hI hJ) (ite_one (law_c18 G hI hJ) (ite_one (law_c19 G hI hJ) (ite_one (law_c20 G hI hJ) (ite_one (law_c21 G hI hJ) (ite_one (law_c22 G hI hJ) (ite_one (law_c23 G hI hJ) (ite_one (law_c24 G hI hJ) (hJ S hI)))))))))))))))))))))))))
    · rw [f_law_L, if_pos (law_lt hL h2 (by omega))]
theorem pure_law (L : Nat) (xs : Nat → Int32) (hL : L ≤ 3584) : f_law_L xs L lawFU (0 : Int32) S0 = some 1 := by
  rw [L0]
  exact law_all hL 512 0 lawFU S0 (by omega) (by omega) (by unfold lawFU; omega) inv0
