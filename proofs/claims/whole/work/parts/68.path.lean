/-! ===== the first row of bits: what it is ===== -/
def dT (S : St) (to : Option Nat) (p i : Nat) : Nat := match to with
  | none => 0
  | some t => dst t (tn S p i)
def good (S : St) (v n : Nat) (r : Nat → Nat) (k : Nat) (to : Option Nat) (due p i m : Nat) : Prop := pv S p = v ∧ i + m < pl S p ∧ m ≤ k ∧ rn S r p m i (n - (k + 1)) = true ∧ ∃ d, isL (DT S v n r (k - m) (tn S p (i + m))) d ∧ d + cE S p (i + m) + (cB S i + dT S to p i) = due
def goodC (S : St) (v n : Nat) (r : Nat → Nat) (k : Nat) (to : Option Nat) (due C : Nat) : Prop := good S v n r k to due (C / 64) (C / 8 % 8) (C % 8)
def fstC (S : St) (v n : Nat) (r : Nat → Nat) (k : Nat) (to : Option Nat) (due C : Nat) : Prop := C < 64 * nP S ∧ goodC S v n r k to due C ∧ ∀ c, c < C → ¬ goodC S v n r k to due c
theorem fstC_uniq {S : St} {v n : Nat} {r : Nat → Nat} {k : Nat} {to : Option Nat} {due C C' : Nat} (h : fstC S v n r k to due C) (h' : fstC S v n r k to due C') : C = C' := by
  rcases Nat.lt_trichotomy C C' with c | c | c
  · exact absurd h.2.1 (h'.2.2 C c)
  · exact c
  · exact absurd h'.2.1 (h.2.2 C' c)
/-- all that is left, behind this tone -/
def tgt (S : St) (v n : Nat) (r : Nat → Nat) (k : Nat) (to : Option Nat) : Pl := match to with
  | none => Tot S v n r k
  | some t => DT S v n r k t
theorem tgt_LB {S : St} {v n : Nat} {r : Nat → Nat} {k : Nat} {to : Option Nat} (hI : I_pcs S) (hk : k + 1 ≤ n) (j : Nat) : tgt S v n r (k + 1) to j = sN (64 * nP S) (fun c => sh (dT S to (c / 64) (c / 8 % 8)) (LB S v n r k c) j) := by
  cases to with
  | none =>
    show Tot S v n r (k + 1) j = sN (64 * nP S) (fun c => sh 0 (LB S v n r k c) j)
    rw [Tot_LB hI hk]
    exact sN_congr (fun c _ => by rw [sh_0])
  | some t =>
    show DT S v n r (k + 1) t j = _
    rw [DT_s]
    exact (LB_sum hI hk (fun p i => dst t (tn S p i)) j).symm
theorem LB_good {S : St} {v n : Nat} {r : Nat → Nat} {k : Nat} {to : Option Nat} {due C : Nat} : goodC S v n r k to due C ↔ isL (sh (dT S to (C / 64) (C / 8 % 8)) (LB S v n r k C)) due := by
  unfold goodC good
  constructor
  · rintro ⟨h1, h2, h3, h4, d, h5, h6⟩
    rw [show LB S v n r k C = _ from if_pos ⟨h1, h2, h3, h4⟩, sh_sh]
    have := h5.mv (dT S to (C / 64) (C / 8 % 8) + (cB S (C / 8 % 8) + cE S (C / 64) (C / 8 % 8 + C % 8)))
    rw [show d + (dT S to (C / 64) (C / 8 % 8) + (cB S (C / 8 % 8) + cE S (C / 64) (C / 8 % 8 + C % 8))) = due by omega] at this
    exact this
  · intro h
    have hnz : ∃ j, LB S v n r k C j ≠ 0 := by
      apply Classical.byContradiction
      intro c
      exact h.1 (sh_zero _ (fun j => Classical.byContradiction fun z => c ⟨j, z⟩) _)
    obtain ⟨j, hj⟩ := hnz
    obtain ⟨g1, g2, g3, g4⟩ := LB_nz hj
    rw [show LB S v n r k C = _ from if_pos ⟨g1, g2, g3, g4⟩, sh_sh] at h
    generalize hz : dT S to (C / 64) (C / 8 % 8) + (cB S (C / 8 % 8) + cE S (C / 64) (C / 8 % 8 + C % 8)) = z at *
    have hle : z ≤ due := by
      apply Classical.byContradiction
      intro c
      have := h.1
      unfold sh at this
      rw [if_neg c] at this
      exact this rfl
    refine ⟨g1, g2, g3, g4, due - z, ⟨?_, fun x hx => ?_⟩, by omega⟩
    · have := h.1
      unfold sh at this
      rw [if_pos hle] at this
      exact this
    · have := h.2 (x + z) (by omega)
      unfold sh at this
      rw [if_pos (by omega), Nat.add_sub_cancel] at this
      exact this
theorem good_ex {S : St} {v n : Nat} {r : Nat → Nat} {k : Nat} {to : Option Nat} {due : Nat} (hI : I_pcs S) (hk : k + 1 ≤ n) (h : isL (tgt S v n r (k + 1) to) due) : ∃ C, fstC S v n r k to due C := by
  have h1 := h.1
  rw [tgt_LB hI hk] at h1
  obtain ⟨C, hC, hC2⟩ := sN_ne h1
  have hg : goodC S v n r k to due C := by
    rw [LB_good]
    refine ⟨hC2, fun x hx => ?_⟩
    have := h.2 x hx
    rw [tgt_LB hI hk] at this
    exact sN_z this C hC
  obtain ⟨C0, hc1, hc2⟩ := pk_least (fun C => goodC S v n r k to due C) ⟨C, hg⟩
  have : C0 ≤ C := Classical.byContradiction fun z => hc2 C (by omega) hg
  exact ⟨C0, by omega, hc1, hc2⟩
def PathR (S : St) (v n : Nat) (r : Nat → Nat) : List Nat → Nat → Option Nat → Nat → Prop
  | [], rem, _, _ => rem = 0
  | C :: L, rem, to, due => ∃ k, rem = k + 1 ∧ fstC S v n r k to due C ∧ ∃ d, isL (DT S v n r (k - C % 8) (tn S (C / 64) (C / 8 % 8 + C % 8))) d ∧ PathR S v n r L (k - C % 8) (some (tn S (C / 64) (C / 8 % 8 + C % 8))) d
theorem PathR_uniq {S : St} {v n : Nat} {r : Nat → Nat} : ∀ (L L' : List Nat) (rem : Nat) (to : Option Nat) (due : Nat), PathR S v n r L rem to due → PathR S v n r L' rem to due → L = L' := by
  intro L
  induction L with
  | nil =>
    intro L' rem to due h h'
    cases L' with
    | nil => rfl
    | cons C L' => obtain ⟨k, hk, -⟩ := h'; rw [PathR] at h; omega
  | cons C L ih =>
    intro L' rem to due h h'
    cases L' with
    | nil => obtain ⟨k, hk, -⟩ := h; rw [PathR] at h'; omega
    | cons C' L' =>
      obtain ⟨k, hk, h1, d, h2, h3⟩ := h
      obtain ⟨k', hk', h1', d', h2', h3'⟩ := h'
      have : k' = k := by omega
      subst this
      have := fstC_uniq h1 h1'
      subst this
      have := h2.uniq h2'
      subst this
      rw [ih L' _ _ _ h3 h3']
def cde (C : Nat) : Nat := 256 * (C / 64) + 16 * (C / 8 % 8) + (C % 8 + 1)
theorem eqs_n {a b c : Nat} (ha : a < 1073741824) (hb : b < 1073741824) (hc : c < 1073741824) : (nI a = nI b - nI c) = (a + c = b) := by
  apply propext
  constructor
  · intro h
    have h2 : nI a + nI c = nI b := by rw [h, Int32.sub_add_cancel]
    rw [plus_n, eq_n (by omega) (by omega)] at h2
    exact h2
  · intro h
    subst h
    rw [sub_n (by omega), Nat.add_sub_cancel]
theorem DT_bd {S b : St} {v n : Nat} {r : Nat → Nat} (h : Wr S v n r n b) {k t : Nat} (hk : k < n) (ht : us S v t = true) : rp (rd b 7 ((n - k) * 100 + t)) (rd b 8 ((n - k) * 100 + t)) (DT S v n r k t) (300 * k) := h k (by omega) hk t ht
