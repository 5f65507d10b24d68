/-! ===== write: the model's loop, and the call ===== -/
theorem writeM_ok {S : St} {n l : Nat} (v : Int64) (hn : n + l ≤ 200) (hl : l ≤ 8) (h : rd S 54 12 = nI n) : ∃ S', f_X11_write_L31 (fun S12 => lt_ (wr S12 54 12 ((rd S12 54 12) + nI l)) fun S13 => some ((rd S13 54 12), S13)) v (nI l) FU (nI 0) S = some (nI (n + l), S') ∧ PWr 65 54 12 v n S l l S' := by
  refine loopC (fun f (a : St) i => f_X11_write_L31 (fun S12 => lt_ (wr S12 54 12 ((rd S12 54 12) + nI l)) fun S13 => some ((rd S13 54 12), S13)) v (nI l) f (nI i) a) (fun x => ∃ S', x = some (nI (n + l), S') ∧ PWr 65 54 12 v n S l l S') (fun i a => PWr 65 54 12 v n S 0 i a) l ?_ ?_ l 0 FU S (by omega) (by unfold FU; omega) ⟨h, fun j => by rw [if_neg (by omega)], fun _ _ _ _ => rfl, fun _ _ => rfl⟩
  · intro f a ha
    obtain ⟨a1, a2, a3, a4⟩ := ha
    refine ⟨wr a 54 12 (nI (n + l)), ?_, rw_eq, fun j => by rw [rw_ne (by omega)]; exact a2 j, fun c j h1 h2 => by rw [rw_ne h2]; exact a3 c j h1 h2, fun c j => by rw [rl_wr]; exact a4 c j⟩
    rw [f_X11_write_L31, if_pos (by rw [le_n (by omega) (by omega)]; exact Nat.le_refl _)]
    simp only [lt_eq]
    rw [a1, plus_n, Nat.add_zero, rw_eq]
  · intro f a i hi ha
    obtain ⟨a1, a2, a3, a4⟩ := ha
    refine Or.inr ⟨wr a 65 (n + i) (nI (byt v i)), ?_, ?_, ?_, ?_, ?_⟩
    · rw [f_X11_write_L31, if_neg (by rw [le_n (by omega) (by omega)]; omega), a1, Nat.add_zero, plus_n, gd_t (inb_n (by omega) (by decide)), cl_n (by omega)]
      simp only [lt_eq, byt_m v (show i < 8 by omega)]
      rw [show (1 : Int32) = nI 1 from rfl, plus_n]
    · rw [rw_ne (by omega)]; exact a1
    · intro j
      by_cases e : j = n + i
      · rw [e, rw_eq, if_pos (by omega), show n + i - n = i by omega]
      · rw [rw_ne (Or.inr e), a2 j]
        by_cases c : n ≤ j ∧ j < n + i
        · rw [if_pos c, if_pos (by omega)]
        · rw [if_neg c, if_neg (by omega)]
    · intro c j h1 h2
      rw [rw_ne (Or.inl h1)]; exact a3 c j h1 h2
    · intro c j; rw [rl_wr]; exact a4 c j
