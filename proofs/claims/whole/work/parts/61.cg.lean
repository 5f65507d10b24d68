/-! ===== pieces as they stand in another state ===== -/
def pcA (c j : Nat) : Prop := pcD c j ∨ (c = 54 ∧ j = 0) ∨ (55 ≤ c ∧ c ≤ 60)
def sameP (S b : St) : Prop := ∀ c j, pcA c j → rd b c j = rd S c j
theorem sameP.n {S b : St} (h : sameP S b) : nP b = nP S := pf_n (fun c j hc => h c j (Or.inl hc))
theorem sameP.acc {S b : St} (h : sameP S b) {p : Nat} (hp : p < 16) : pl b p = pl S p ∧ px b p = px S p ∧ pv b p = pv S p ∧ pw b p = pw S p ∧ pb b p = pb S p ∧ pe b p = pe S p ∧ ∀ i, tn b p i = tn S p i := by
  have h1 : ∀ j, rd b (200 + 2 * p) j = rd S (200 + 2 * p) j := fun j => h _ _ (Or.inl (by unfold pcD; omega))
  have h2 : ∀ j, rd b (200 + 2 * p + 1) j = rd S (200 + 2 * p + 1) j := fun j => h _ _ (Or.inl (by unfold pcD; omega))
  refine ⟨?_, ?_, ?_, ?_, ?_, ?_, fun i => ?_⟩
  · unfold pl; rw [h1]
  · unfold px; rw [h1]
  · unfold pv; rw [h1]
  · unfold pw; rw [h1]
  · unfold pb; rw [h 57 p (by unfold pcA; omega)]
  · unfold pe; rw [h 58 p (by unfold pcA; omega)]
  · unfold tn nv; rw [h2]
theorem sameP.alk {S b : St} (h : sameP S b) {p q : Nat} (hp : p < 16) (hq : q < 16) : al b p q = al S p q := by
  obtain ⟨a1, a2, a3, -⟩ := h.acc hp
  obtain ⟨b1, b2, b3, -⟩ := h.acc hq
  unfold al
  rw [a1, a2, a3, b1, b2, b3]
theorem sameP.lk {S b : St} (h : sameP S b) {p : Nat} (hp : p < 16) : ∀ k, k ≤ 16 → lstK b p k = lstK S p k := by
  intro k
  induction k with
  | zero => intro _; exact (h.acc hp).2.2.2.1
  | succ k ih =>
    intro hk
    show (if _ then _ else _) = (if _ then _ else _)
    rw [h.alk (show k < 16 by omega) hp, ih (by omega), (h.acc (show k < 16 by omega)).2.2.2.1]
theorem sameP.ls {S b : St} (h : sameP S b) (h16 : nP S ≤ 16) {p : Nat} (hp : p < 16) : lst b p = lst S p := by
  show lstK b p (nP b) = lstK S p (nP S)
  rw [h.n, h.lk hp _ h16]
theorem sameP.I {S b : St} (h : sameP S b) (hI : I_pcs S) : I_pcs b := by
  obtain ⟨h1, h2, h3, h4⟩ := hI
  refine ⟨by rw [h.n]; exact h1, by rw [h.n, h 1 1 (by unfold pcA pcD; omega)]; exact h2, by rw [h.n, h 54 0 (by unfold pcA; omega)]; exact h3, fun p hp => ?_⟩
  rw [h.n] at hp
  obtain ⟨g1, g2, g3⟩ := h4 p hp
  obtain ⟨a1, a2, a3, a4, a5, a6, a7⟩ := h.acc (show p < 16 by omega)
  have d1 : ∀ j, rd b (200 + 2 * p) j = rd S (200 + 2 * p) j := fun j => h _ _ (Or.inl (by unfold pcD; omega))
  have d2 : ∀ j, rd b (200 + 2 * p + 1) j = rd S (200 + 2 * p + 1) j := fun j => h _ _ (Or.inl (by unfold pcD; omega))
  refine ⟨?_, ?_, ?_⟩
  · unfold OKc; rw [a1, a2, a3, a4, d1, d1, d1, d1]; exact g1
  · unfold OKm; rw [a1, a2, a3, a4, a5, a6, h 56 p (by unfold pcA; omega), h 57 p (by unfold pcA; omega), h 58 p (by unfold pcA; omega), h 59 p (by unfold pcA; omega), h 60 p (by unfold pcA; omega)]
    obtain ⟨k1, k2, k3, k4, k5, k6, k7, k8⟩ := g2
    exact ⟨k1, k2, k3, k4, k5, k6, k7, fun j hj => by rw [h 55 _ (by unfold pcA; omega), d2]; exact k8 j hj⟩
  · rw [h.ls h1 (by omega), d1]; exact g3
theorem sameP.we {S b : St} (h : sameP S b) (h16 : nP S ≤ 16) {p : Nat} (hp : p < 16) (j : Nat) : wear b p j = wear S p j := by
  show (if tb (pw b p) j then 1 else 0) + (if tb (lst b p) j then 1 else 0) = (if tb (pw S p) j then 1 else 0) + (if tb (lst S p) j then 1 else 0)
  rw [h.ls h16 hp, (h.acc hp).2.2.2.1]
theorem wear2 {S : St} {p j : Nat} : wear S p j = 2 ↔ tb (lst S p) j = true := by
  unfold wear
  constructor
  · intro h
    cases c : tb (lst S p) j
    · rw [c] at h; exfalso; revert h; cases tb (pw S p) j <;> decide
    · rfl
  · intro h
    rw [h, lst_bit h]; rfl
theorem wear_le {S : St} {p j : Nat} : wear S p j ≤ 2 := by unfold wear; split <;> split <;> omega
theorem dbl_cg {S b : St} (h : sameP S b) (h16 : nP S ≤ 16) {v : Nat} {f g : Nat → Nat → Nat} (e : ∀ p i, p < nP S → pv S p = v → i < pl S p → f p i = g p i) : dbl b v f = dbl S v g := by
  unfold dbl
  rw [h.n]
  apply sN_congr
  intro p hp
  obtain ⟨a1, a2, a3, -⟩ := h.acc (show p < 16 by omega)
  rw [a1, a3]
  by_cases c : pv S p = v
  · rw [if_pos c, if_pos c]; exact sN_congr (fun i hi => e p i hp c hi)
  · rw [if_neg c, if_neg c]
theorem D_cg {S b : St} (h : sameP S b) (h16 : nP S ≤ 16) (hct : ct b = ct S) (v n : Nat) (r : Nat → Nat) : ∀ k, (∀ t, DT b v n r k t = DT S v n r k t) ∧ ∀ p, p < nP S → ∀ i, DI b v n r k p i = DI S v n r k p i := by
  intro k
  induction k with
  | zero => exact ⟨fun t => rfl, fun p _ i => rfl⟩
  | succ k ih =>
    have hDI : ∀ p, p < nP S → ∀ i, DI b v n r (k + 1) p i = DI S v n r (k + 1) p i := by
      intro p hp i
      obtain ⟨a1, a2, a3, a4, a5, a6, a7⟩ := h.acc (show p < 16 by omega)
      rw [DI_s, DI_s]
      unfold sy cE
      rw [a1, a2, h.ls h16 (by omega), a7, hct, ih.1, ih.2 p hp]
    refine ⟨fun t => ?_, hDI⟩
    rw [DT_s, DT_s]
    funext j
    apply dbl_cg h h16
    intro p i hp _ _
    rw [(h.acc (show p < 16 by omega)).2.2.2.2.2.2, hDI p hp]
    unfold cB
    rw [hct]
theorem Tot_cg {S b : St} (h : sameP S b) (h16 : nP S ≤ 16) (hct : ct b = ct S) (v n : Nat) (r : Nat → Nat) (k : Nat) : Tot b v n r k = Tot S v n r k := by
  unfold Tot
  funext j
  apply dbl_cg h h16
  intro p i hp _ _
  rw [(D_cg h h16 hct v n r k).2 p hp]
  unfold cB
  rw [hct]
/-! ===== a bit of a piece, by its end ===== -/
def rn (S : St) (r : Nat → Nat) (p : Nat) : Nat → Nat → Nat → Bool
  | 0, i, q => sy S r p i q
  | m + 1, i, q => sy S r p i q && rn S r p m (i + 1) (q + 1)
theorem rn_iff {S : St} {r : Nat → Nat} {p : Nat} : ∀ m i q, rn S r p m i q = true ↔ ∀ x, x ≤ m → sy S r p (i + x) (q + x) = true := by
  intro m
  induction m with
  | zero =>
    intro i q
    constructor
    · intro h x hx
      have : x = 0 := by omega
      subst this; exact h
    · intro h; exact h 0 (Nat.le_refl _)
  | succ m ih =>
    intro i q
    rw [rn, Bool.and_eq_true, ih]
    constructor
    · rintro ⟨h1, h2⟩ x hx
      cases x with
      | zero => exact h1
      | succ x => have := h2 x (by omega); rw [show i + (x + 1) = i + 1 + x by omega, show q + (x + 1) = q + 1 + x by omega]; exact this
    · intro h
      exact ⟨h 0 (by omega), fun x hx => by have := h (x + 1) (by omega); rw [show i + (x + 1) = i + 1 + x by omega, show q + (x + 1) = q + 1 + x by omega] at this; exact this⟩
theorem sN_first (n : Nat) (f : Nat → Nat) : sN (n + 1) f = f 0 + sN n (fun i => f (i + 1)) := by
  rw [Nat.add_comm n 1, sN_split]
  show 0 + f 0 + _ = _
  rw [Nat.zero_add]
  congr 1
  exact sN_congr (fun i _ => by rw [Nat.add_comm])
def un (S : St) (v n : Nat) (r : Nat → Nat) (p k i j m : Nat) : Nat := if i + m < pl S p ∧ m ≤ k ∧ rn S r p m i (n - (k + 1)) = true then sh (cE S p (i + m)) (DT S v n r (k - m) (tn S p (i + m))) j else 0
theorem DI_un {S : St} {v n : Nat} {r : Nat → Nat} {p : Nat} : ∀ k i N, k + 1 ≤ n → i < pl S p → pl S p ≤ i + N → ∀ j, DI S v n r (k + 1) p i j = sN N (un S v n r p k i j) := by
  intro k
  induction k with
  | zero =>
    intro i N hk hi hN j
    obtain ⟨N, rfl⟩ : ∃ z, N = z + 1 := ⟨N - 1, by omega⟩
    have h0 : sN N (fun m => un S v n r p 0 i j (m + 1)) = 0 := sN_zero (fun m _ => if_neg (by omega))
    rw [sN_first, h0, DI_s, Nat.add_zero]
    by_cases c : sy S r p i (n - (0 + 1)) = true
    · rw [if_pos c]
      refine Eq.trans ?_ (if_pos (show i + 0 < pl S p ∧ 0 ≤ 0 ∧ rn S r p 0 i (n - (0 + 1)) = true from ⟨hi, Nat.le_refl _, c⟩)).symm
      show _ + (if _ then _ else _) = _
      split
      · rw [DI_0]; rfl
      · rfl
    · rw [if_neg c]
      exact (if_neg (show ¬ (i + 0 < pl S p ∧ 0 ≤ 0 ∧ rn S r p 0 i (n - (0 + 1)) = true) from fun z => c z.2.2)).symm
  | succ k ih =>
    intro i N hk hi hN j
    obtain ⟨N, rfl⟩ : ∃ z, N = z + 1 := ⟨N - 1, by omega⟩
    rw [sN_first, DI_s]
    by_cases c : sy S r p i (n - (k + 1 + 1)) = true
    · rw [if_pos c]
      have h0 : un S v n r p (k + 1) i j 0 = sh (cE S p i) (DT S v n r (k + 1) (tn S p i)) j := if_pos (show i + 0 < pl S p ∧ 0 ≤ k + 1 ∧ rn S r p 0 i (n - (k + 1 + 1)) = true from ⟨hi, by omega, c⟩)
      rw [h0]
      show _ + (if _ then _ else _) = _
      congr 1
      by_cases c2 : i + 1 < pl S p
      · rw [if_pos c2, ih (i + 1) N (by omega) c2 (by omega)]
        apply sN_congr
        intro m _
        unfold un
        have e3 : (i + 1 + m < pl S p ∧ m ≤ k ∧ rn S r p m (i + 1) (n - (k + 1)) = true) ↔ (i + (m + 1) < pl S p ∧ m + 1 ≤ k + 1 ∧ rn S r p (m + 1) i (n - (k + 1 + 1)) = true) := by
          rw [rn, show n - (k + 1 + 1) + 1 = n - (k + 1) by omega, c, Bool.true_and]
          constructor
          · rintro ⟨z1, z2, z3⟩; exact ⟨by omega, by omega, z3⟩
          · rintro ⟨z1, z2, z3⟩; exact ⟨by omega, by omega, z3⟩
        by_cases c3 : i + 1 + m < pl S p ∧ m ≤ k ∧ rn S r p m (i + 1) (n - (k + 1)) = true
        · rw [if_pos c3, if_pos (e3.mp c3), show i + 1 + m = i + (m + 1) by omega, show k + 1 - (m + 1) = k - m by omega]
        · rw [if_neg c3, if_neg (fun z => c3 (e3.mpr z))]
      · rw [if_neg c2]
        exact (sN_zero (fun m _ => if_neg (by omega))).symm
    · rw [if_neg c]
      have h0 : un S v n r p (k + 1) i j 0 = 0 := if_neg (show ¬ (i + 0 < pl S p ∧ 0 ≤ k + 1 ∧ rn S r p 0 i (n - (k + 1 + 1)) = true) from fun z => c z.2.2)
      rw [h0, Nat.zero_add]
      refine (sN_zero (fun m _ => if_neg (fun z => ?_))).symm
      have := z.2.2
      rw [rn, Bool.and_eq_true] at this
      exact c this.1
/-- what the model keeps at a place, by a bit's number -/
def LB (S : St) (v n : Nat) (r : Nat → Nat) (k b : Nat) : Pl := if pv S (b / 64) = v ∧ b / 8 % 8 + b % 8 < pl S (b / 64) ∧ b % 8 ≤ k ∧ rn S r (b / 64) (b % 8) (b / 8 % 8) (n - (k + 1)) = true then sh (cB S (b / 8 % 8) + cE S (b / 64) (b / 8 % 8 + b % 8)) (DT S v n r (k - b % 8) (tn S (b / 64) (b / 8 % 8 + b % 8))) else fun _ => 0
theorem LB_sum {S : St} {v n : Nat} {r : Nat → Nat} {k : Nat} (hI : I_pcs S) (hk : k + 1 ≤ n) (w : Nat → Nat → Nat) (j : Nat) : sN (64 * nP S) (fun b => sh (w (b / 64) (b / 8 % 8)) (LB S v n r k b) j) = dbl S v (fun p i => sh (w p i) (sh (cB S i) (DI S v n r (k + 1) p i)) j) := by
  rw [Nat.mul_comm, sN_mul]
  unfold dbl
  apply sN_congr
  intro p hp
  obtain ⟨-, -, -, -, -, c2, c3, -⟩ := pf_p hI (fun _ _ _ => rfl) hp
  rw [show (64 : Nat) = 8 * 8 from rfl, sN_mul]
  have e1 : ∀ i m, i < 8 → m < 8 → (p * (8 * 8) + (i * 8 + m)) / (8 * 8) = p ∧ (p * (8 * 8) + (i * 8 + m)) / 8 % 8 = i ∧ (p * (8 * 8) + (i * 8 + m)) % 8 = m := fun i m hi hm => ⟨by omega, by omega, by omega⟩
  by_cases hv : pv S p = v
  · rw [if_pos hv, sN_ext0 c3]
    · apply sN_congr
      intro i hi
      show _ = sh (w p i) (sh (cB S i) (DI S v n r (k + 1) p i)) j
      rw [show DI S v n r (k + 1) p i = fun j => sN 8 (fun m => un S v n r p k i j m) from funext (fun j => DI_un k i 8 hk hi (by omega) j)]
      rw [sh_sh, sh_sum (w p i + cB S i) 8 (fun m j => un S v n r p k i j m)]
      apply sN_congr
      intro m hm
      obtain ⟨a1, a2, a3⟩ := e1 i m (by omega) hm
      unfold LB un
      rw [show (64 : Nat) = 8 * 8 from rfl, a1, a2, a3]
      by_cases c : i + m < pl S p ∧ m ≤ k ∧ rn S r p m i (n - (k + 1)) = true
      · rw [if_pos ⟨hv, c⟩, sh_sh]
        simp only [if_pos c]
        rw [show (fun j => sh (cE S p (i + m)) (DT S v n r (k - m) (tn S p (i + m))) j) = sh (cE S p (i + m)) (DT S v n r (k - m) (tn S p (i + m))) from rfl, sh_sh, Nat.add_assoc]
      · rw [if_neg (fun z => c z.2)]
        simp only [if_neg c]
        rw [sh_zero _ (fun _ => rfl), sh_zero _ (fun _ => rfl)]
    · intro i h1 h2
      apply sN_zero
      intro m hm
      obtain ⟨a1, a2, a3⟩ := e1 i m h2 hm
      apply sh_zero
      intro j
      unfold LB
      rw [show (64 : Nat) = 8 * 8 from rfl, a1, a2, a3, if_neg (by omega)]
  · rw [if_neg hv]
    apply sN_zero
    intro i hi
    apply sN_zero
    intro m hm
    obtain ⟨a1, a2, a3⟩ := e1 i m hi hm
    apply sh_zero
    intro j
    unfold LB
    rw [show (64 : Nat) = 8 * 8 from rfl, a1, if_neg (fun z => hv z.1)]
