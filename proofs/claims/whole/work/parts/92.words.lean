/-! ===== which word a token is; numbers ===== -/
def wd (i : Nat) : List Nat := [[119, 111, 114, 100], [105, 115], [108, 105, 110, 101], [99, 117, 116], [110, 101, 97, 114], [102, 97, 114]].getD i []
def wIs (B : Nat → Nat) (N p i : Nat) : Bool := decide (tE B N p - tB B N p = (wd i).length) && (List.range (wd i).length).all (fun k => decide (B (tB B N p + k) = (wd i).getD k 0))
theorem wIs_iff {B : Nat → Nat} {N p i : Nat} : wIs B N p i = true ↔ tE B N p - tB B N p = (wd i).length ∧ ∀ k, k < (wd i).length → B (tB B N p + k) = (wd i).getD k 0 := by
  unfold wIs
  rw [Bool.and_eq_true, List.all_eq_true]
  constructor
  · rintro ⟨h1, h2⟩
    exact ⟨of_decide_eq_true h1, fun k hk => of_decide_eq_true (h2 k (List.mem_range.mpr hk))⟩
  · rintro ⟨h1, h2⟩
    exact ⟨decide_eq_true h1, fun k hk => decide_eq_true (h2 k (List.mem_range.mp hk))⟩
theorem wd_facts : ∀ i : Fin 6, (wd i.1).length = lenJS.getD i.1 0 ∧ 2 ≤ (wd i.1).length ∧ (wd i.1).length ≤ 4 := by decide
theorem wd_ch : ∀ i : Fin 6, ∀ k : Fin 4, k.1 < (wd i.1).length → sc_ch i.1 k.1 = nI ((wd i.1).getD k.1 0) ∧ 97 ≤ (wd i.1).getD k.1 0 ∧ (wd i.1).getD k.1 0 ≤ 122 := by decide
theorem takes_ok {S a : St} {B : Nat → Nat} {N p i : Nat} (hT : Txt S B N) (hf : fr Xt S a) (hp : p ≤ N) (hi : i < 6) (hl : ldC B N p a) :
    ∃ a', f_X9_takes i a = some (bI (wIs B N p i), a') ∧ (wIs B N p i = true → ldC B N (tE B N p) a') ∧ (wIs B N p i = false → a' = a) ∧ fr (fun c j => c = 20 ∧ (j = 4 ∨ j = 5 ∨ j = 6)) a a' := by
  have hT0 := hT
  obtain ⟨t1, t2, -, t4⟩ := hT
  obtain ⟨y1, y2, y3, y4, -⟩ := tok_facts B hp
  obtain ⟨l1, l2, l3⟩ := hl
  obtain ⟨w1, w2, w3⟩ := wd_facts ⟨i, hi⟩
  replace w1 : (wd i).length = lenJS.getD i 0 := w1
  replace w2 : 2 ≤ (wd i).length := w2
  replace w3 : (wd i).length ≤ 4 := w3
  unfold f_X9_takes f_J0_length_8abf5
  rw [bd_some, l1, l2, sub_n y3, ← w1]
  by_cases c : tE B N p - tB B N p = (wd i).length
  · rw [if_pos (by rw [c])]
    refine loopC (fun f (_ : Unit) k => f_X9_takes_L20 _ _ i f (nI k) a) (fun y => ∃ a', y = some (bI (wIs B N p i), a') ∧ (wIs B N p i = true → ldC B N (tE B N p) a') ∧ (wIs B N p i = false → a' = a) ∧ fr (fun c j => c = 20 ∧ (j = 4 ∨ j = 5 ∨ j = 6)) a a') (fun k _ => ∀ x, x < k → B (tB B N p + x) = (wd i).getD x 0) (wd i).length ?_ ?_ (wd i).length 0 FU () (by omega) (by unfold FU; omega) (fun x hx => by omega)
    · intro f _ h
      have hw : wIs B N p i = true := wIs_iff.mpr ⟨c, h⟩
      obtain ⟨a2, o1, o2, o3⟩ := step_ok hT0 hf y4 l2
      rw [hw]
      refine ⟨a2, ?_, fun _ => o2, fun z => (by cases z), o3⟩
      show f_X9_takes_L20 _ _ _ _ _ _ = _
      rw [f_X9_takes_L20]
      unfold f_J0_length_8abf5
      rw [bd_some, ← w1, if_pos (Int32.le_refl _), o1, bd_some]; rfl
    · intro f _ k hk h
      obtain ⟨v1, v2, v3⟩ := wd_ch ⟨i, hi⟩ ⟨k, by omega⟩ hk
      replace v1 : sc_ch i k = nI ((wd i).getD k 0) := v1
      replace v2 : 97 ≤ (wd i).getD k 0 := v2
      replace v3 : (wd i).getD k 0 ≤ 122 := v3
      have hb := t4 (tB B N p + k) (by omega)
      have e1 : rd a 21 (tB B N p + k) = nI (B (tB B N p + k)) := by rw [hf _ _ (by unfold Xt; omega)]; exact hb.2.1
      have hstep : f_X9_takes_L20 (fun  (S14 : St) => some ((0 : Int32), S14)) (fun  (S15 : St) => bd_ (f_X9_step  S15) fun r16 S17 => some ((1 : Int32), S17)) i (f + 1) (nI k) a = (if nI (B (tB B N p + k)) = nI ((wd i).getD k 0) then f_X9_takes_L20 (fun  (S14 : St) => some ((0 : Int32), S14)) (fun  (S15 : St) => bd_ (f_X9_step  S15) fun r16 S17 => some ((1 : Int32), S17)) i f (nI (k + 1)) a else some ((0 : Int32), a)) := by
        rw [f_X9_takes_L20]
        unfold f_J0_length_8abf5 f_J0_charAt_5068e
        rw [bd_some, ← w1, if_neg (by rw [le_n (by omega) (by omega)]; omega), l1, plus_n, gd_t (inb_n (by omega) (by decide)), gd_t (inb_n hk (by omega)), bd_some, cl_n (by omega), cl_n (by omega), e1, v1, lt_eq, show nI k + (1 : Int32) = nI (k + 1) from plus_n k 1]
      by_cases d : B (tB B N p + k) = (wd i).getD k 0
      · right
        refine ⟨(), ?_, fun x hx => ?_⟩
        · show f_X9_takes_L20 _ _ _ (f + 1) _ _ = f_X9_takes_L20 _ _ _ f _ _
          rw [hstep, if_pos (by rw [d])]
        · by_cases y : x = k
          · rw [y]; exact d
          · exact h x (by omega)
      · left
        have hw : wIs B N p i = false := by
          rw [Bool.eq_false_iff]
          intro z
          exact d ((wIs_iff.mp z).2 k hk)
        rw [hw]
        refine ⟨a, ?_, fun z => (by cases z), fun _ => rfl, fr.refl _ _⟩
        show f_X9_takes_L20 _ _ _ (f + 1) _ _ = _
        rw [hstep, if_neg (by rw [eq_n (by omega) (by omega)]; exact d)]; rfl
  · have hw : wIs B N p i = false := by
      rw [Bool.eq_false_iff]
      intro z
      exact c (wIs_iff.mp z).1
    rw [hw, if_neg (by rw [eq_n (by omega) (by omega)]; exact c)]
    exact ⟨a, rfl, fun z => (by cases z), fun _ => rfl, fr.refl _ _⟩
theorem wc_lt (B : Nat → Nat) (b : Nat) : ∀ k, (∀ i, i < k → B (b + i) ≤ 122) → wc B b k < 27 ^ k := by
  intro k
  induction k with
  | zero => intro _; rw [wc]; decide
  | succ k ih =>
    intro h
    have h1 := ih (fun i hi => h i (by omega))
    have h2 := h k (by omega)
    rw [wc, Nat.pow_succ]
    omega
theorem wc_inj (B : Nat → Nat) (b : Nat) (W : Nat → Nat) : ∀ k k', (∀ i, i < k → 97 ≤ B (b + i) ∧ B (b + i) ≤ 122) → (∀ i, i < k' → 97 ≤ W (0 + i) ∧ W (0 + i) ≤ 122) → wc B b k = wc W 0 k' → k = k' ∧ ∀ i, i < k → B (b + i) = W (0 + i) := by
  intro k
  induction k with
  | zero =>
    intro k' _ h2 h
    cases k' with
    | zero => exact ⟨rfl, fun i hi => by omega⟩
    | succ k' => have := h2 k' (by omega); rw [wc, wc] at h; omega
  | succ k ih =>
    intro k' h1 h2 h
    cases k' with
    | zero => have := h1 k (by omega); rw [wc, wc] at h; omega
    | succ k' =>
      have a1 := h1 k (by omega)
      have a2 := h2 k' (by omega)
      rw [wc, wc] at h
      obtain ⟨e1, e2⟩ := ih k' (fun i hi => h1 i (by omega)) (fun i hi => h2 i (by omega)) (by omega)
      subst e1
      refine ⟨rfl, fun i hi => ?_⟩
      by_cases y : i = k
      · subst y; omega
      · exact e2 i (by omega)
def cdw (i : Nat) : Nat := [464134, 262, 243140, 2774, 279252, 4419].getD i 0
theorem cdw_wc : ∀ i : Fin 6, cdw i.1 = wc (fun k => (wd i.1).getD k 0) 0 (wd i.1).length ∧ lN (cdw i.1) ≠ -1 ∧ lN (cdw i.1) ≠ -2 ∧ lN (cdw i.1) ≠ -3 ∧ lN (cdw i.1) ≠ -4 ∧ lN (cdw i.1) ≠ -5 := by decide
theorem tokV_w {B : Nat → Nat} {N p i : Nat} (hp : p ≤ N) (hi : i < 6) : tokV B N p = lN (cdw i) ↔ wIs B N p i = true := by
  obtain ⟨y1, y2, y3, y4, y5, y6, y7, y8, y9, y10⟩ := tok_facts B hp
  obtain ⟨z1, z2, z3, z4, z5, z6⟩ := cdw_wc ⟨i, hi⟩
  replace z1 : cdw i = wc (fun k => (wd i).getD k 0) 0 (wd i).length := z1
  obtain ⟨w1, w2, w3⟩ := wd_facts ⟨i, hi⟩
  replace w2 : 2 ≤ (wd i).length := w2
  replace w3 : (wd i).length ≤ 4 := w3
  have hch : ∀ k, k < (wd i).length → 97 ≤ (wd i).getD k 0 ∧ (wd i).getD k 0 ≤ 122 := fun k hk => (wd_ch ⟨i, hi⟩ ⟨k, by omega⟩ hk).2
  have hlt1 : cdw i < 27 ^ 4 := by rw [z1]; exact Nat.lt_of_lt_of_le (wc_lt _ _ _ (fun k hk => by have := hch k hk; rw [Nat.zero_add]; exact this.2)) (Nat.pow_le_pow_right (by decide) w3)
  by_cases k1 : tK B N p = 1
  · obtain ⟨y11, y12⟩ := y10 (Or.inl k1)
    have hlet : ∀ k, k < tE B N p - tB B N p → 97 ≤ B (tB B N p + k) ∧ B (tB B N p + k) ≤ 122 := fun k hk => by
      have := y12 (tB B N p + k) (by omega) (by omega)
      rw [k1] at this
      have := kd_cases (B (tB B N p + k))
      omega
    have hV : tokV B N p = if tE B N p - tB B N p ≤ 9 then lN (wc B (tB B N p) (tE B N p - tB B N p)) else -4 := by
      unfold tokV; rw [if_neg (by omega), if_neg (by omega), if_neg (by omega)]
    rw [hV]
    by_cases d : tE B N p - tB B N p ≤ 9
    · rw [if_pos d]
      have hlt := wc_lt B (tB B N p) _ (fun k hk => (hlet k hk).2)
      have hlt2 : wc B (tB B N p) (tE B N p - tB B N p) < 27 ^ 9 := Nat.lt_of_lt_of_le hlt (Nat.pow_le_pow_right (by decide) d)
      rw [pk_lEQ (Nat.lt_trans hlt2 (by decide)) (Nat.lt_trans hlt1 (by decide)), wIs_iff]
      constructor
      · intro h
        rw [z1] at h
        obtain ⟨e1, e2⟩ := wc_inj B (tB B N p) (fun k => (wd i).getD k 0) _ _ hlet (fun k hk => by show 97 ≤ (wd i).getD (0 + k) 0 ∧ (wd i).getD (0 + k) 0 ≤ 122; rw [Nat.zero_add]; exact hch k hk) h
        refine ⟨e1, fun k hk => ?_⟩
        have := e2 k (by omega)
        rw [this]
        show (wd i).getD (0 + k) 0 = _
        rw [Nat.zero_add]
      · rintro ⟨e1, e2⟩
        rw [z1, e1]
        have : ∀ m, m ≤ (wd i).length → wc B (tB B N p) m = wc (fun k => (wd i).getD k 0) 0 m := by
          intro m
          induction m with
          | zero => intro _; rfl
          | succ m ih => intro hm; rw [wc, wc, ih (by omega), e2 m (by omega), Nat.zero_add]
        exact this _ (Nat.le_refl _)
    · rw [if_neg d, wIs_iff]
      constructor
      · intro h; exact absurd h.symm z5
      · intro h; omega
  · have hf : wIs B N p i = false := by
      rw [Bool.eq_false_iff]
      intro z
      obtain ⟨e1, e2⟩ := wIs_iff.mp z
      have h0 := e2 0 (by omega)
      rw [Nat.add_zero] at h0
      have h97 := hch 0 (by omega)
      by_cases k0 : tK B N p = 0
      · have := y7 k0; omega
      · have hlt : tB B N p ≠ N := fun z => k0 (y5.mpr z)
        have hkd : tK B N p = kd (B (tB B N p)) := if_neg hlt
        have := kd_cases (B (tB B N p))
        omega
    rw [hf]
    refine ⟨fun h => ?_, fun z => (by cases z)⟩
    exfalso
    unfold tokV at h
    by_cases k0 : tK B N p = 0
    · rw [if_pos k0] at h; exact z3 h.symm
    · rw [if_neg k0] at h
      by_cases k3 : tK B N p = 3
      · rw [if_pos k3] at h
        split at h
        · exact z4 h.symm
        · split at h
          · exact z6 h.symm
          · exact z5 h.symm
      · rw [if_neg k3, if_pos (by omega)] at h
        split at h
        · exact z2 h.symm
        · exact z5 h.symm
