/-! ===== mend: place 5 of each piece is what is worn in all its doubles ===== -/
theorem lstK_of {S S' : St} (h : eq5 S S') (p k : Nat) : lstK S' p k = lstK S p k := by
  obtain ⟨-, -, -, d, -⟩ := h.acc
  induction k with
  | zero => rw [lstK, lstK, d]
  | succ k ih => rw [lstK, lstK, al_of h, d, ih]
theorem OKc_of {S S' : St} (h : eq5 S S') {p : Nat} (hp : OKc S p) : OKc S' p := by
  obtain ⟨a, b, c, d, -⟩ := h.acc
  unfold OKc
  rw [a, b, c, d, h.1 _ 0 (Or.inl (by decide)), h.1 _ 1 (Or.inl (by decide)), h.1 _ 2 (Or.inl (by decide)), h.1 _ 4 (Or.inl (by decide))]
  exact hp
theorem pin {p n : Nat} {S : St} (hn : nP S = n) (h16 : n ≤ 16) (hp : p < n) : inb (nI p) 16 ∧ (Int32.toNatClampNeg (nI p)) < nP S := by
  rw [cl_n (by omega), hn]
  exact ⟨inb_n (by omega) (by decide), hp⟩
theorem pin' {p n : Nat} {S : St} (hn : nP S = n) (h16 : n ≤ 16) (hp : p < n) : inb (nI p) 16 ∧ p < nP S := by
  rw [hn]
  exact ⟨inb_n (by omega) (by decide), hp⟩
theorem mend22_ok {S : St} {n p : Nat} (hn : nP S = n) (h16 : n ≤ 16) (h11 : rd S 1 1 = nI n) (hp : p < n) (hc : ∀ q, q < n → OKc S q) (K : Int32 → St → Option (Unit × St)) :
    f_X8_mend_L22 K (nI p) FU (nI (pw S p)) (nI 0) S = K (nI (lst S p)) S := by
  obtain ⟨z, e1, e3, e2⟩ := loopN (fun f (_ : Unit) i => f_X8_mend_L22 K (nI p) f (nI (lstK S p i)) (nI i) S) (fun _ => K (nI (lst S p)) S) (fun _ a => a) (fun _ _ => True) n
    (fun f a _ => by rw [f_X8_mend_L22, h11, if_pos (by rw [le_n (by omega) (by omega)]; exact Nat.le_refl _)]; unfold lst; rw [hn])
    (fun f a i hi _ => by
      refine ⟨?_, trivial⟩
      have w1 : lstK S p i < 256 := Nat.lt_of_le_of_lt (lstK_le S p i) (hc p hp).w
      have w2 := (hc i hi).w
      obtain ⟨-, -, -, -, -, -, -, -, a9⟩ := hc i hi
      rw [f_X8_mend_L22, h11, if_neg (by rw [le_n (by omega) (by omega)]; omega), gd_t (pin hn h16 hi), gd_t (pin hn h16 hp)]
      simp only [cl_n (show i < 2147483648 by omega), cl_n (show p < 2147483648 by omega)]
      rw [double_ok (hc i hi) (hc p hp), bd_some]
      simp only [lt_eq, lit, plus_n, gd_t (pin' hn h16 hi), a9, and_n (show lstK S p i < 4294967296 by omega) (show pw S i < 4294967296 by omega)]
      rw [lstK]
      cases al S i p
      · rw [if_pos (by decide), if_neg (by decide)]
      · rw [if_neg (by decide), if_pos rfl]) n 0 FU () (by omega) (by unfold FU; omega) trivial
  exact e2
theorem mend_ok {S : St} {n : Nat} (hn : nP S = n) (h16 : n ≤ 16) (h11 : rd S 1 1 = nI n) (hc : ∀ q, q < n → OKc S q) :
    ∃ S', f_X8_mend S = some ((), S') ∧ eq5 S S' ∧ ∀ p, p < n → rd S' (200 + 2 * p) 5 = nI (lst S p) := by
  unfold f_X8_mend
  refine loopC (fun f (a : St) i => f_X8_mend_L2 (fun S => some ((), S)) f (nI i) a) (fun x => ∃ S', x = some ((), S') ∧ eq5 S S' ∧ ∀ p, p < n → rd S' (200 + 2 * p) 5 = nI (lst S p)) (fun i a => eq5 S a ∧ ∀ p, p < i → rd a (200 + 2 * p) 5 = nI (lst S p)) n ?_ ?_ n 0 FU S (by omega) (by unfold FU; omega) ⟨eq5.refl S, fun p hp => by omega⟩
  · intro f a ha
    refine ⟨a, ?_, ha⟩
    rw [f_X8_mend_L2, ha.1.1 1 1 (by omega), h11, if_pos (by rw [le_n (by omega) (by omega)]; exact Nat.le_refl _)]
  · intro f a i hi ha
    have hn' : nP a = n := by rw [ha.1.acc.2.2.2.2, hn]
    have h11' : rd a 1 1 = nI n := by rw [ha.1.1 1 1 (by omega), h11]
    have hc' : ∀ q, q < n → OKc a q := fun q hq => OKc_of ha.1 (hc q hq)
    refine Or.inr ⟨wr a (200 + 2 * i) 5 (nI (lst S i)), ?_, ha.1.wr (by omega) _, fun p hp => ?_⟩
    · obtain ⟨-, -, -, -, -, -, -, -, a9⟩ := hc' i hi
      rw [f_X8_mend_L2, h11', if_neg (by rw [le_n (by omega) (by omega)]; omega), gd_t (pin hn' h16 hi)]
      simp only [lt_eq, ← nI_0, cl_n (show i < 2147483648 by omega), a9]
      rw [mend22_ok hn' h16 h11' hi hc', gd_t (pin' hn' h16 hi), lit, plus_n]
      have : lst a i = lst S i := by unfold lst; rw [hn', hn, lstK_of ha.1]
      rw [this]
    · by_cases e : p = i
      · rw [e, rw_eq]
      · rw [rw_ne (Or.inl (by omega))]
        exact ha.2 p (by omega)
