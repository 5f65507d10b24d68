/-! ===== told: who hears whom; what is told, apart from its cells ===== -/
def clr (m b : Nat) : Nat := m &&& (63 ^^^ 2 ^ b)
def stb (m b : Nat) : Nat := m ||| 2 ^ b
theorem clr_n {m b : Nat} (hm : m < 64) (hb : b < 6) : nI m &&& (((1 : Int32) <<< (nI b &&& 31)) ^^^ (-1 : Int32)) = nI (clr m b) := by
  have : ∀ m : Fin 64, ∀ b : Fin 6, nI m.1 &&& (((1 : Int32) <<< (nI b.1 &&& 31)) ^^^ (-1 : Int32)) = nI (clr m.1 b.1) := by decide +kernel
  exact this ⟨m, hm⟩ ⟨b, hb⟩
theorem stb_n {m b : Nat} (hm : m < 64) (hb : b < 6) : nI m ||| ((1 : Int32) <<< (nI b &&& 31)) = nI (stb m b) := by
  have : ∀ m : Fin 64, ∀ b : Fin 6, nI m.1 ||| ((1 : Int32) <<< (nI b.1 &&& 31)) = nI (stb m.1 b.1) := by decide +kernel
  exact this ⟨m, hm⟩ ⟨b, hb⟩
theorem clr_t {m b q : Nat} (hm : m < 64) (hb : b < 6) (hq : q < 6) : clr m b < 64 ∧ tb (clr m b) q = (tb m q && !decide (b = q)) := by
  have : ∀ m : Fin 64, ∀ b q : Fin 6, clr m.1 b.1 < 64 ∧ tb (clr m.1 b.1) q.1 = (tb m.1 q.1 && !decide (b.1 = q.1)) := by decide +kernel
  exact this ⟨m, hm⟩ ⟨b, hb⟩ ⟨q, hq⟩
theorem stb_t {m b q : Nat} (hm : m < 64) (hb : b < 6) (hq : q < 6) : stb m b < 64 ∧ tb (stb m b) q = (tb m q || decide (b = q)) := by
  have : ∀ m : Fin 64, ∀ b q : Fin 6, stb m.1 b.1 < 64 ∧ tb (stb m.1 b.1) q.1 = (tb m.1 q.1 || decide (b.1 = q.1)) := by decide +kernel
  exact this ⟨m, hm⟩ ⟨b, hb⟩ ⟨q, hq⟩
/-- words, lines, cost of a cut, who hears whom -/
abbrev Dt : Type := (Nat → List Nat) × (Nat → List Nat) × Nat × (Nat → Nat → Bool)
def upL (g : Nat → List Nat) (i : Nat) (l : List Nat) (k : Nat) : List Nat := if k = i then l else g k
def apD (row : Rw) (D : Dt) : Dt :=
  if row.1 = 0 then (upL D.1 row.2.1 row.2.2, D.2)
  else if row.1 = 1 then (D.1, upL D.2.1 row.2.1 row.2.2, D.2.2)
  else if row.1 = 2 then (D.1, D.2.1, row.2.1, D.2.2.2)
  else if row.1 = 3 then (D.1, D.2.1, D.2.2.1, fun p q => D.2.2.2 p q || (decide (p = row.2.1) && decide (row.2.2.getD 0 0 = q)) || (decide (p = row.2.2.getD 0 0) && decide (row.2.1 = q)))
  else (D.1, D.2.1, D.2.2.1, fun p q => D.2.2.2 p q && !(decide (p = row.2.1) && decide (row.2.2.getD 0 0 = q)) && !(decide (p = row.2.2.getD 0 0) && decide (row.2.1 = q)))
def okD (D : Dt) : Prop := (∀ w, w < 32 → (D.1 w).length ≤ 8 ∧ ∀ i, i < (D.1 w).length → (D.1 w).getD i 0 < 16) ∧ (∀ l, l < 8 → (D.2.1 l).length ≤ 8 ∧ ∀ i, i < (D.2.1 l).length → (D.2.1 l).getD i 0 = 100 ∨ (D.2.1 l).getD i 0 < 32) ∧ D.2.2.1 < 100
def rC (D : Dt) (S : St) : Prop := (∀ w, w < 32 → rd S 16 w = nI (D.1 w).length ∧ rd S 15 w = nI (pkd (D.1 w) (D.1 w).length)) ∧ (∀ l, l < 8 → rd S 18 l = nI (D.2.1 l).length ∧ ∀ j, j < (D.2.1 l).length → rd S 17 (8 * l + j) = nI ((D.2.1 l).getD j 0)) ∧ rd S 3 4 = nI D.2.2.1 ∧ ∀ p, p < 6 → ∃ m, m < 64 ∧ rd S 46 p = nI m ∧ ∀ q, q < 6 → tb m q = (decide (p = q) || D.2.2.2 p q)
def rM (D : Dt) (S : St) : Prop := (∀ w, w < 32 → rd S 67 w = nI (D.1 w).length ∧ ∀ j, j < (D.1 w).length → rd S 68 (8 * w + j) = nI ((D.1 w).getD j 0)) ∧ (∀ l, l < 8 → rd S 69 l = nI (D.2.1 l).length ∧ ∀ j, j < (D.2.1 l).length → rd S 70 (8 * l + j) = nI (p32 ((D.2.1 l).getD j 0))) ∧ rd S 54 7 = nI D.2.2.1 ∧ ∀ p, p < 6 → ∃ m, m < 64 ∧ rd S 72 p = nI m ∧ ∀ q, q < 6 → tb m q = D.2.2.2 p q
theorem apD_ok {row : Rw} {D : Dt} (h : rwOK row) (hD : okD D) : okD (apD row D) := by
  obtain ⟨d1, d2, d3⟩ := hD
  unfold apD
  rcases h with h | h | h | h
  · rw [if_pos h.1]
    refine ⟨fun w hw => ?_, d2, d3⟩
    show (upL D.1 row.2.1 row.2.2 w).length ≤ 8 ∧ ∀ i, i < (upL D.1 row.2.1 row.2.2 w).length → (upL D.1 row.2.1 row.2.2 w).getD i 0 < 16
    unfold upL
    split
    · exact h.2.2.2
    · exact d1 w hw
  · rw [if_neg (by omega), if_pos h.1]
    refine ⟨d1, fun w hw => ?_, d3⟩
    show (upL D.2.1 row.2.1 row.2.2 w).length ≤ 8 ∧ ∀ i, i < (upL D.2.1 row.2.1 row.2.2 w).length → (upL D.2.1 row.2.1 row.2.2 w).getD i 0 = 100 ∨ (upL D.2.1 row.2.1 row.2.2 w).getD i 0 < 32
    unfold upL
    split
    · exact h.2.2.2
    · exact d2 w hw
  · rw [if_neg (by omega), if_neg (by omega), if_pos h.1]
    exact ⟨d1, d2, h.2⟩
  · rw [if_neg (by omega), if_neg (by omega), if_neg (by omega)]
    split <;> exact ⟨d1, d2, d3⟩
