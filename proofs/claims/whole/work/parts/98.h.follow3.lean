/-! ===== told: bits of who hears whom ===== -/
def bits (c : Nat) (f : Nat → Nat → Bool) (S : St) : Prop := ∀ p, p < 6 → ∃ m, m < 64 ∧ rd S c p = nI m ∧ ∀ q, q < 6 → tb m q = f p q
theorem bits_join {c x y : Nat} {f : Nat → Nat → Bool} {a : St} (hx : x < 6) (hy : y < 6) (hxy : y ≠ x) (h : bits c f a) : ∃ m k, m < 64 ∧ k < 64 ∧ rd a c x = nI m ∧ rd a c y = nI k ∧ bits c (fun p q => f p q || (decide (p = x) && decide (y = q)) || (decide (p = y) && decide (x = q))) (wr (wr a c x (nI (stb m y))) c y (nI (stb k x))) := by
  obtain ⟨m, a1, a2, a3⟩ := h x hx
  obtain ⟨k, b1, b2, b3⟩ := h y hy
  refine ⟨m, k, a1, b1, a2, b2, fun p hp => ?_⟩
  by_cases e : p = y
  · subst e
    refine ⟨stb k x, (stb_t b1 hx hx).1, rw_eq, fun q hq => ?_⟩
    show _ = (f p q || (decide (p = x) && decide (p = q)) || (decide (p = p) && decide (x = q)))
    rw [(stb_t b1 hx hq).2, b3 q hq, decide_eq_false hxy, decide_eq_true rfl, Bool.false_and, Bool.or_false, Bool.true_and]
  · by_cases e2 : p = x
    · subst e2
      refine ⟨stb m y, (stb_t a1 hy hy).1, by rw [rw_ne (by omega), rw_eq], fun q hq => ?_⟩
      show _ = (f p q || (decide (p = p) && decide (y = q)) || (decide (p = y) && decide (p = q)))
      rw [(stb_t a1 hy hq).2, a3 q hq, decide_eq_false e, decide_eq_true rfl, Bool.false_and, Bool.or_false, Bool.true_and]
    · obtain ⟨n, d1, d2, d3⟩ := h p hp
      refine ⟨n, d1, by rw [rw_ne (by omega), rw_ne (by omega)]; exact d2, fun q hq => ?_⟩
      show _ = (f p q || (decide (p = x) && decide (y = q)) || (decide (p = y) && decide (x = q)))
      rw [d3 q hq, decide_eq_false e, decide_eq_false e2, Bool.false_and, Bool.false_and, Bool.or_false, Bool.or_false]
theorem bits_part {c x y : Nat} {f : Nat → Nat → Bool} {a : St} (hx : x < 6) (hy : y < 6) (hxy : y ≠ x) (h : bits c f a) : ∃ m k, m < 64 ∧ k < 64 ∧ rd a c x = nI m ∧ rd a c y = nI k ∧ bits c (fun p q => f p q && !(decide (p = x) && decide (y = q)) && !(decide (p = y) && decide (x = q))) (wr (wr a c x (nI (clr m y))) c y (nI (clr k x))) := by
  obtain ⟨m, a1, a2, a3⟩ := h x hx
  obtain ⟨k, b1, b2, b3⟩ := h y hy
  refine ⟨m, k, a1, b1, a2, b2, fun p hp => ?_⟩
  by_cases e : p = y
  · subst e
    refine ⟨clr k x, (clr_t b1 hx hx).1, rw_eq, fun q hq => ?_⟩
    show _ = (f p q && !(decide (p = x) && decide (p = q)) && !(decide (p = p) && decide (x = q)))
    rw [(clr_t b1 hx hq).2, b3 q hq, decide_eq_false hxy, decide_eq_true rfl, Bool.false_and, Bool.not_false, Bool.and_true, Bool.true_and]
  · by_cases e2 : p = x
    · subst e2
      refine ⟨clr m y, (clr_t a1 hy hy).1, by rw [rw_ne (by omega), rw_eq], fun q hq => ?_⟩
      show _ = (f p q && !(decide (p = p) && decide (y = q)) && !(decide (p = y) && decide (p = q)))
      rw [(clr_t a1 hy hq).2, a3 q hq, decide_eq_false e, decide_eq_true rfl, Bool.false_and, Bool.not_false, Bool.and_true, Bool.true_and]
    · obtain ⟨n, d1, d2, d3⟩ := h p hp
      refine ⟨n, d1, by rw [rw_ne (by omega), rw_ne (by omega)]; exact d2, fun q hq => ?_⟩
      show _ = (f p q && !(decide (p = x) && decide (y = q)) && !(decide (p = y) && decide (x = q)))
      rw [d3 q hq, decide_eq_false e, decide_eq_false e2, Bool.false_and, Bool.false_and, Bool.not_false, Bool.and_true, Bool.and_true]
