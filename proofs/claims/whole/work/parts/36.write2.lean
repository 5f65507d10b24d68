/-! ===== write: the class's loop ===== -/
def PWr (A B k : Nat) (v : Int64) (n : Nat) (S : St) (m i : Nat) (a : St) : Prop := rd a B k = nI (n + m) ∧ (∀ j, rd a A j = if n ≤ j ∧ j < n + i then nI (byt v (j - n)) else rd S A j) ∧ (∀ c j, c ≠ A → (c ≠ B ∨ j ≠ k) → rd a c j = rd S c j) ∧ ∀ c j, rl a c j = rl S c j
theorem append_ok {S : St} {n l : Nat} (v : Int64) (hn : n + l ≤ 200) (hl : l ≤ 8) (h : rd S 20 1 = nI n) : ∃ S', f_X9_append v (nI l) S = some (nI (n + l), S') ∧ PWr 21 20 1 v n S l l S' := by
  unfold f_X9_append
  refine loopC (fun f (a : St) i => f_X9_append_L3 (fun S => some (rd S 20 1, S)) v (nI l) f (nI i) a) (fun x => ∃ S', x = some (nI (n + l), S') ∧ PWr 21 20 1 v n S l l S') (fun i a => PWr 21 20 1 v n S i i a) l ?_ ?_ l 0 FU S (by omega) (by unfold FU; omega) ⟨h, fun j => by rw [if_neg (by omega)], fun _ _ _ _ => rfl, fun _ _ => rfl⟩
  · intro f a ha
    refine ⟨a, ?_, ha⟩
    rw [f_X9_append_L3, if_pos (by rw [le_n (by omega) (by omega)]; exact Nat.le_refl _), ha.1]
  · intro f a i hi ha
    obtain ⟨a1, a2, a3, a4⟩ := ha
    refine Or.inr ⟨wr (wr a 21 (n + i) (nI (byt v i))) 20 1 (nI (n + (i + 1))), ?_, ?_, ?_, ?_, ?_⟩
    · rw [f_X9_append_L3, if_neg (by rw [le_n (by omega) (by omega)]; omega), a1, if_neg (by rw [show (200 : Int32) = nI 200 from rfl, le_n (by omega) (by omega)]; omega), gd_t (inb_n (by omega) (by decide)), cl_n (by omega)]
      simp only [lt_eq, byt_c v (show i < 8 by omega)]
      rw [rw_ne (by omega), a1, show (1 : Int32) = nI 1 from rfl, plus_n, plus_n, Nat.add_assoc]
    · rw [rw_eq]
    · intro j
      rw [rw_ne (by omega)]
      by_cases e : j = n + i
      · rw [e, rw_eq, if_pos (by omega), show n + i - n = i by omega]
      · rw [rw_ne (Or.inr e), a2 j]
        by_cases c : n ≤ j ∧ j < n + i
        · rw [if_pos c, if_pos (by omega)]
        · rw [if_neg c, if_neg (by omega)]
    · intro c j h1 h2
      rw [rw_ne h2, rw_ne (Or.inl h1)]; exact a3 c j h1 h2
    · intro c j; rw [rl_wr, rl_wr]; exact a4 c j
