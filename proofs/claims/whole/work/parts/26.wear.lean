/-! ===== what is worn, what is lost: the model's side ===== -/
theorem dig_eq : ∀ (l x y : Nat), x < 16 ^ l → y < 16 ^ l → (∀ j, j < l → x / 16 ^ j % 16 = y / 16 ^ j % 16) → x = y := by
  intro l
  induction l with
  | zero =>
    intro x y hx hy _
    rw [Nat.pow_zero] at hx hy
    omega
  | succ l ih =>
    intro x y hx hy h
    have h0 := h 0 (by omega)
    rw [Nat.pow_zero, Nat.div_one, Nat.div_one] at h0
    have h1 : x / 16 = y / 16 := by
      apply ih
      · rw [Nat.div_lt_iff_lt_mul (by decide), ← Nat.pow_succ]; exact hx
      · rw [Nat.div_lt_iff_lt_mul (by decide), ← Nat.pow_succ]; exact hy
      · intro j hj
        have := h (j + 1) (by omega)
        rw [Nat.pow_succ, Nat.mul_comm, ← Nat.div_div_eq_div_mul, ← Nat.div_div_eq_div_mul] at this
        exact this
    clear h hx hy ih
    omega
/-- the first k sounds are the same -/
def smK (S : St) (p q : Nat) : Nat → Bool
  | 0 => true
  | k + 1 => smK S p q k && decide (px S p / 16 ^ k % 16 = px S q / 16 ^ k % 16)
theorem smK_iff (S : St) (p q k : Nat) : smK S p q k = true ↔ ∀ j, j < k → px S p / 16 ^ j % 16 = px S q / 16 ^ j % 16 := by
  induction k with
  | zero => exact ⟨fun _ j hj => absurd hj (Nat.not_lt_zero _), fun _ => rfl⟩
  | succ k ih =>
    rw [smK, Bool.and_eq_true, ih, decide_eq_true_eq]
    constructor
    · intro ⟨a, b⟩ j hj
      by_cases e : j = k
      · rw [e]; exact b
      · exact a j (by omega)
    · intro h
      exact ⟨fun j hj => h j (by omega), h k (by omega)⟩
def bI (b : Bool) : Int32 := if b then 1 else 0
theorem alike_ok {S : St} (hI : I_pcs S) {p q : Nat} (hp : p < nP S) (hq : q < nP S) : f_X11_isAlike (nI p) (nI q) S = some (bI (al S p q), S) := by
  obtain ⟨h16, -, -, hA⟩ := hI
  obtain ⟨cp, mp, -⟩ := hA p hp
  obtain ⟨cq, mq, -⟩ := hA q hq
  have e2 := eq_w cp.vl.1 cq.vl.1
  have e3 := eq_w cp.vl.2 cq.vl.2
  have hl : pl S p ≤ 8 := cp.2.1
  have xp : px S p < 16 ^ pl S p := cp.2.2.2.2.1
  have xq : px S q < 16 ^ pl S q := cq.2.2.2.2.1
  obtain ⟨-, -, p1, -, -, p2, -, p3⟩ := mp
  obtain ⟨-, -, q1, -, -, q2, -, q3⟩ := mq
  have hpn : p < 16 := Nat.lt_of_lt_of_le hp h16
  have hqn : q < 16 := Nat.lt_of_lt_of_le hq h16
  have lp : ∀ (b : Bool), (b = true → pl S p = pl S q) → f_X11_isAlike_L39 (fun x S => gd_ (bz x) (some (x, S))) (nI p) (nI q) FU (bI b) (nI 0) S = some (bI (b && smK S p q (pl S p)), S) := by
    intro b hb
    clear xp xq e2 e3
    obtain ⟨z, e1, e3, e2⟩ := loopN (fun f (_ : Unit) i => f_X11_isAlike_L39 (fun x S => gd_ (bz x) (some (x, S))) (nI p) (nI q) f (bI (b && smK S p q i)) (nI i) S) (fun _ => some (bI (b && smK S p q (pl S p)), S)) (fun _ a => a) (fun _ _ => True) (pl S p)
      (fun f a _ => by
        rw [f_X11_isAlike_L39, gd_t (inb_n hpn (by decide))]
        simp only [cl_n (show p < 2147483648 by omega), p1]
        rw [if_pos (by rw [le_n (by omega) (by omega)]; exact Nat.le_refl _)]
        cases (b && smK S p q (pl S p)) <;> rfl)
      (fun f a i hi _ => by
        refine ⟨?_, trivial⟩
        rw [f_X11_isAlike_L39, gd_t (inb_n hpn (by decide))]
        simp only [cl_n (show p < 2147483648 by omega), p1]
        rw [if_neg (by rw [le_n (by omega) (by omega)]; omega)]
        simp only [lt_eq, lit, mul_n, plus_n, smK]
        cases hc : (b && smK S p q i)
        · rw [if_pos (by decide)]
          have : (b && (smK S p q i && decide (px S p / 16 ^ i % 16 = px S q / 16 ^ i % 16))) = false := by rw [← Bool.and_assoc, hc]; rfl
          rw [this]; rfl
        · have hb1 : b = true := by cases b <;> simp_all
          have hlq := hb hb1
          have f1 := (p3 i hi).1
          have f2 := (q3 i (by omega)).1
          rw [if_neg (by decide), gd_t (inb_n (by omega) (by decide)), gd_t (inb_n (by omega) (by decide))]
          simp only [cl_n (show 8 * p + i < 2147483648 by omega), cl_n (show 8 * q + i < 2147483648 by omega), f1, f2]
          have m1 : px S p / 16 ^ i % 16 < 4294967296 := Nat.lt_trans (Nat.mod_lt _ (by decide)) (by decide)
          have m2 : px S q / 16 ^ i % 16 < 4294967296 := Nat.lt_trans (Nat.mod_lt _ (by decide)) (by decide)
          simp only [eq_w m1 m2]
          rw [← Bool.and_assoc, hc]
          by_cases c : px S p / 16 ^ i % 16 = px S q / 16 ^ i % 16
          · rw [if_pos c, decide_eq_true c]; rfl
          · rw [if_neg c, decide_eq_false c]; rfl) (pl S p) 0 FU () (by omega) (by unfold FU; omega) trivial
    rw [show (b && smK S p q 0) = b by cases b <;> rfl] at e2
    exact e2
  unfold f_X11_isAlike
  rw [gd_t (inb_n hpn (by decide)), gd_t (inb_n hqn (by decide))]
  simp only [lt_eq, gd_t (inb_n hpn (show 16 < 2147483648 by decide)), gd_t (inb_n hqn (show 16 < 2147483648 by decide)), cl_n (Nat.lt_trans hpn (show 16 < 2147483648 by decide)), cl_n (Nat.lt_trans hqn (show 16 < 2147483648 by decide)), p1, p2, q1, q2, e2, e3]
  have l0 := lp false (fun h => by cases h)
  by_cases c1 : pv S p = pv S q
  · rw [if_pos c1]
    by_cases c2 : pl S p = pl S q
    · rw [if_pos c2]
      have l1 := lp true (fun _ => c2)
      refine l1.trans ?_
      have : (true && smK S p q (pl S p)) = al S p q := by
        rw [Bool.true_and]
        unfold al
        by_cases c : px S p = px S q
        · rw [decide_eq_true ⟨c1, c2, c⟩, smK_iff]
          intro j _; rw [c]
        · rw [decide_eq_false (fun h => c h.2.2), Bool.eq_false_iff]
          intro h
          rw [smK_iff] at h
          exact c (dig_eq _ _ _ xp (by rw [c2]; exact xq) h)
      rw [this]
    · rw [if_neg c2]
      refine l0.trans ?_
      rw [show al S p q = false from decide_eq_false (fun h => c2 h.2.1)]; rfl
  · rw [if_neg c1]
    refine l0.trans ?_
    rw [show al S p q = false from decide_eq_false (fun h => c1 h.1)]; rfl
