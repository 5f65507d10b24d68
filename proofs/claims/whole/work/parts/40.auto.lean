/-! ===== numbers by themselves: rows for the simplifier ===== -/
theorem gN {β : Type} {i N : Nat} {x : Option β} [Decidable (inb (nI i) N)] (h : i < N ∧ N < 2147483648) : gd_ (inb (nI i) N) x = x := if_pos (inb_n h.1 h.2)
theorem gN2 {β : Type} {i N n : Nat} {x : Option β} [Decidable (inb (nI i) N ∧ i < n)] (h : i < N ∧ N < 2147483648 ∧ i < n) : gd_ (inb (nI i) N ∧ i < n) x = x := if_pos ⟨inb_n h.1 h.2.1, h.2.2⟩
theorem le_T {a b : Nat} (h : a ≤ b ∧ b < 2147483648) : (nI a ≤ nI b) = True := by rw [le_n (by omega) (by omega)]; exact eq_true h.1
theorem le_F {a b : Nat} (h : b < a ∧ a < 2147483648) : (nI a ≤ nI b) = False := by rw [le_n (by omega) (by omega)]; exact eq_false (by omega)
theorem lt_T {a b : Nat} (h : a < b ∧ b < 2147483648) : (nI a < nI b) = True := by rw [lt_n (by omega) (by omega)]; exact eq_true h.1
theorem lt_F {a b : Nat} (h : b ≤ a ∧ a < 2147483648) : (nI a < nI b) = False := by rw [lt_n (by omega) (by omega)]; exact eq_false (by omega)
theorem eq_T {a b : Nat} (h : a = b) : (nI a = nI b) = True := by rw [h]; exact eq_true rfl
theorem eq_F {a b : Nat} (h : a ≠ b ∧ a < 2147483648 ∧ b < 2147483648) : (nI a = nI b) = False := by rw [eq_n (by omega) (by omega)]; exact eq_false h.1
theorem div_n {a d : Nat} (h : a < 2147483648 ∧ 0 < d ∧ d < 2147483648) : nI a / nI d = nI (a / d) := pk_div (by omega) (by omega) (by omega)
theorem rem_n {a d : Nat} (h : a < 2147483648 ∧ 0 < d ∧ d < 2147483648) : nI a - nI a / nI d * nI d = nI (a % d) := pk_rem (by omega) (by omega) (by omega)
theorem md_n (a d : Nat) : a - a / d * d = a % d := by
  have := Nat.div_add_mod a d
  have := Nat.mul_comm d (a / d)
  omega
theorem re_T {S : St} {k j a b : Nat} {v : Int32} (h : a = k ∧ b = j) : rd (wr S k j v) a b = v := by rw [h.1, h.2, rw_eq]
theorem re_F {S : St} {k j a b : Nat} {v : Int32} (h : a ≠ k ∨ b ≠ j) : rd (wr S k j v) a b = rd S a b := rw_ne h
theorem cN {n : Nat} (h : n < 2147483648) : Int32.toNatClampNeg (nI n) = n := cl_n h
theorem z_n : ∀ n : Nat, (0 : Int32) = nI 0 := fun _ => rfl
theorem m1_n {n : Nat} : nI n = -1 ↔ n % 4294967296 = 4294967295 := by
  constructor
  · intro h
    have h := congrArg (fun x : Int32 => x.toBitVec.toNat) h
    simp only [nI_bv, BitVec.toNat_ofNat] at h
    simpa using h
  · intro h
    apply Int32.toBitVec_inj.mp
    apply BitVec.eq_of_toNat_eq
    rw [nI_bv, BitVec.toNat_ofNat, h]
    rfl
theorem ne_m1 {n : Nat} (h : n < 2147483648) : (nI n = -nI 1) = False := eq_false (by rw [show -nI 1 = (-1 : Int32) from rfl, m1_n]; omega)
theorem m1_ne {n : Nat} (h : n < 2147483648) : (-nI 1 = nI n) = False := eq_false (fun c => of_eq_false (ne_m1 h) c.symm)
theorem m1_lt {n : Nat} (h : n < 2147483648) : (-nI 1 < nI n) = True := by
  apply eq_true
  exact Int32.lt_of_lt_of_le (show (-1 : Int32) < 0 by decide) (nI_pos' (by omega))
theorem m1_le {n : Nat} (h : n < 2147483648) : (-nI 1 ≤ nI n) = True := by
  apply eq_true
  exact Int32.le_trans (show (-1 : Int32) ≤ 0 by decide) (nI_pos' (by omega))
theorem m1_ge {n : Nat} (h : n < 2147483648) : (nI n ≤ -nI 1) = False := by
  apply eq_false
  intro c
  have := Int32.lt_of_lt_of_le (show (-1 : Int32) < 0 by decide) (nI_pos' (n := n) (by omega))
  exact Int32.lt_irrefl (Int32.lt_of_lt_of_le this c)
theorem m1_gt {n : Nat} (h : n < 2147483648) : (nI n < -nI 1) = False := by
  apply eq_false
  intro c
  exact of_eq_false (m1_ge h) (Int32.le_of_lt c)
theorem m1_refl : (-nI 1 ≤ -nI 1) = True := eq_true (Int32.le_refl _)
theorem m1c (v : Int32) : ¬ ((-1 : Int32) ≤ v) ∨ v = -1 ∨ ∃ j, j < 2147483648 ∧ v = nI j := by
  by_cases h : v < 0
  · by_cases h2 : (-1 : Int32) ≤ v
    · right; left
      rw [Int32.lt_iff_toInt_lt] at h
      rw [Int32.le_iff_toInt_le] at h2
      apply Int32.toInt_inj.mp
      have e1 : (-1 : Int32).toInt = -1 := by decide
      have e2 : (0 : Int32).toInt = 0 := by decide
      omega
    · exact Or.inl h2
  · obtain ⟨j, h1, h2⟩ := nI_of h
    exact Or.inr (Or.inr ⟨j, by omega, h2⟩)
theorem L0 : (0 : Int32) = nI 0 := rfl
theorem L1 : (1 : Int32) = nI 1 := rfl
theorem L2 : (2 : Int32) = nI 2 := rfl
theorem L3 : (3 : Int32) = nI 3 := rfl
theorem L4 : (4 : Int32) = nI 4 := rfl
theorem L5 : (5 : Int32) = nI 5 := rfl
theorem L6 : (6 : Int32) = nI 6 := rfl
theorem L7 : (7 : Int32) = nI 7 := rfl
theorem L8 : (8 : Int32) = nI 8 := rfl
theorem L9 : (9 : Int32) = nI 9 := rfl
theorem L10 : (10 : Int32) = nI 10 := rfl
theorem L11 : (11 : Int32) = nI 11 := rfl
theorem L15 : (15 : Int32) = nI 15 := rfl
theorem L16 : (16 : Int32) = nI 16 := rfl
theorem L17 : (17 : Int32) = nI 17 := rfl
theorem L18 : (18 : Int32) = nI 18 := rfl
theorem L20 : (20 : Int32) = nI 20 := rfl
theorem L24 : (24 : Int32) = nI 24 := rfl
theorem L26 : (26 : Int32) = nI 26 := rfl
theorem L28 : (28 : Int32) = nI 28 := rfl
theorem L31 : (31 : Int32) = nI 31 := rfl
theorem L32 : (32 : Int32) = nI 32 := rfl
theorem L35 : (35 : Int32) = nI 35 := rfl
theorem L36 : (36 : Int32) = nI 36 := rfl
theorem L48 : (48 : Int32) = nI 48 := rfl
theorem L57 : (57 : Int32) = nI 57 := rfl
theorem L59 : (59 : Int32) = nI 59 := rfl
theorem L63 : (63 : Int32) = nI 63 := rfl
theorem L64 : (64 : Int32) = nI 64 := rfl
theorem L96 : (96 : Int32) = nI 96 := rfl
theorem L97 : (97 : Int32) = nI 97 := rfl
theorem L99 : (99 : Int32) = nI 99 := rfl
theorem L100 : (100 : Int32) = nI 100 := rfl
theorem L112 : (112 : Int32) = nI 112 := rfl
theorem L122 : (122 : Int32) = nI 122 := rfl
theorem L128 : (128 : Int32) = nI 128 := rfl
theorem L200 : (200 : Int32) = nI 200 := rfl
theorem L255 : (255 : Int32) = nI 255 := rfl
theorem L256 : (256 : Int32) = nI 256 := rfl
theorem L1000 : (1000 : Int32) = nI 1000 := rfl
theorem L1024 : (1024 : Int32) = nI 1024 := rfl
theorem L2000 : (2000 : Int32) = nI 2000 := rfl
theorem L3000 : (3000 : Int32) = nI 3000 := rfl
theorem L1000000 : (1000000 : Int32) = nI 1000000 := rfl
theorem L1000000007 : (1000000007 : Int32) = nI 1000000007 := rfl
/-- what a place holds, as a number -/
def nv (S : St) (c j : Nat) : Nat := (rd S c j).toNatClampNeg
theorem nv_n {S : St} {c j n : Nat} (h : rd S c j = nI n) (hn : n < 2147483648) : nv S c j = n := by unfold nv; rw [h, cl_n hn]
/-- only what is in X has changed -/
def fr (X : Nat → Nat → Prop) (S S' : St) : Prop := ∀ c j, ¬ X c j → rd S' c j = rd S c j
theorem fr.refl (X : Nat → Nat → Prop) (S : St) : fr X S S := fun _ _ _ => rfl
theorem fr.trans {X : Nat → Nat → Prop} {S S1 S2 : St} (h1 : fr X S S1) (h2 : fr X S1 S2) : fr X S S2 := fun c j h => (h2 c j h).trans (h1 c j h)
theorem fr.mono {X Y : Nat → Nat → Prop} {S S1 : St} (h1 : fr X S S1) (h : ∀ c j, X c j → Y c j) : fr Y S S1 := fun c j hc => h1 c j (fun z => hc (h c j z))
theorem fr.wr {X : Nat → Nat → Prop} {S S1 : St} (h1 : fr X S S1) {c j : Nat} {v : Int32} (h : X c j) : fr X S (wr S1 c j v) := fun c' j' h' => by
  have : c' ≠ c ∨ j' ≠ j := by
    by_cases e : c' = c
    · right; intro e2; rw [e, e2] at h'; exact h' h
    · exact Or.inl e
  rw [rw_ne this]; exact h1 c' j' h'
theorem fr.wl {X : Nat → Nat → Prop} {S S1 : St} (h1 : fr X S S1) {c j : Nat} {v : Int64} : fr X S (wl S1 c j v) := fun c' j' h' => by
  rw [rd_wl]; exact h1 c' j' h'
/-- a list of numbers, as rows of the machine hold one: A the row, (B, k) its length -/
def hasL (S : St) (A B k : Nat) (l : List Nat) : Prop := rd S B k = nI l.length ∧ ∀ i, i < l.length → rd S A i = nI (l.getD i 0)
theorem hasL.nil {S : St} {A B k : Nat} (h : rd S B k = nI 0) : hasL S A B k [] := ⟨h, fun i hi => by simp at hi⟩
