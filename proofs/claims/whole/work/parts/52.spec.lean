/-! ===== what is said: rows of bits, counted by jar ===== -/
def tn (S : St) (p i : Nat) : Nat := nv S (200 + 2 * p + 1) i
def ct (S : St) : Nat := nv S 3 4
def sy (S : St) (r : Nat → Nat) (p i k : Nat) : Bool := decide (px S p / 16 ^ i % 16 = r k) && !(tb (lst S p) i)
def cB (S : St) (i : Nat) : Nat := if i = 0 then 0 else ct S
def cE (S : St) (p i : Nat) : Nat := if i + 1 = pl S p then 0 else ct S
/-- over all places of the voice's pieces -/
def dbl (S : St) (v : Nat) (f : Nat → Nat → Nat) : Nat := sN (nP S) (fun p => if pv S p = v then sN (pl S p) (f p) else 0)
theorem dbl_congr {S : St} {v : Nat} {f g : Nat → Nat → Nat} (h : ∀ p i, p < nP S → pv S p = v → i < pl S p → f p i = g p i) : dbl S v f = dbl S v g := by
  unfold dbl
  apply sN_congr
  intro p hp
  by_cases c : pv S p = v
  · rw [if_pos c, if_pos c]; exact sN_congr (fun i hi => h p i hp c hi)
  · rw [if_neg c, if_neg c]
theorem dbl_sN {S : St} {v n : Nat} (f : Nat → Nat → Nat → Nat) : sN n (fun s => dbl S v (fun p i => f p i s)) = dbl S v (fun p i => sN n (fun s => f p i s)) := by
  unfold dbl
  rw [sN_comm]
  apply sN_congr
  intro p _
  by_cases c : pv S p = v
  · simp only [if_pos c]; exact sN_comm _ _ _
  · simp only [if_neg c]; exact sN_zero (fun _ _ => rfl)
theorem dbl_sh {S : St} {v k : Nat} (f : Nat → Nat → Pl) (j : Nat) : sh k (fun j => dbl S v (fun p i => f p i j)) j = dbl S v (fun p i => sh k (f p i) j) := by
  unfold dbl sh
  by_cases c : k ≤ j
  · simp only [if_pos c]
  · simp only [if_neg c]
    symm
    apply sN_zero
    intro p _
    split
    · exact sN_zero (fun _ _ => rfl)
    · rfl
def D (S : St) (v n : Nat) (r : Nat → Nat) : Nat → (Nat → Pl) × (Nat → Nat → Pl)
  | 0 => (fun _ => one, fun _ _ _ => 0)
  | k + 1 => (fun t j => dbl S v (fun p i => sh (dst t (tn S p i)) (sh (cB S i) (if sy S r p i (n - (k + 1)) = true then (fun j => sh (cE S p i) ((D S v n r k).1 (tn S p i)) j + if i + 1 < pl S p then (D S v n r k).2 p (i + 1) j else 0) else fun _ => 0)) j),
      fun p i => if sy S r p i (n - (k + 1)) = true then (fun j => sh (cE S p i) ((D S v n r k).1 (tn S p i)) j + if i + 1 < pl S p then (D S v n r k).2 p (i + 1) j else 0) else fun _ => 0)
def DT (S : St) (v n : Nat) (r : Nat → Nat) (k t : Nat) : Pl := (D S v n r k).1 t
def DI (S : St) (v n : Nat) (r : Nat → Nat) (k p i : Nat) : Pl := (D S v n r k).2 p i
theorem DT_0 (S : St) (v n : Nat) (r : Nat → Nat) (t : Nat) : DT S v n r 0 t = one := rfl
theorem DI_0 (S : St) (v n : Nat) (r : Nat → Nat) (p i : Nat) : DI S v n r 0 p i = fun _ => 0 := rfl
theorem DI_s (S : St) (v n : Nat) (r : Nat → Nat) (k p i : Nat) : DI S v n r (k + 1) p i = if sy S r p i (n - (k + 1)) = true then (fun j => sh (cE S p i) (DT S v n r k (tn S p i)) j + if i + 1 < pl S p then DI S v n r k p (i + 1) j else 0) else fun _ => 0 := rfl
theorem DT_s (S : St) (v n : Nat) (r : Nat → Nat) (k t : Nat) : DT S v n r (k + 1) t = fun j => dbl S v (fun p i => sh (dst t (tn S p i)) (sh (cB S i) (DI S v n r (k + 1) p i)) j) := rfl
def Bg (S : St) (v n : Nat) (r : Nat → Nat) (k s : Nat) : Pl := fun j => dbl S v (fun p i => if tn S p i = s then sh (cB S i) (DI S v n r k p i) j else 0)
def Tot (S : St) (v n : Nat) (r : Nat → Nat) (k : Nat) : Pl := fun j => dbl S v (fun p i => sh (cB S i) (DI S v n r k p i) j)
theorem Tot_Bg {S : St} {v n : Nat} {r : Nat → Nat} {k : Nat} (ht : ∀ p i, p < nP S → i < pl S p → tn S p i < 100) : Tot S v n r k = fun j => sN 100 (fun s => Bg S v n r k s j) := by
  funext j
  unfold Tot Bg
  rw [dbl_sN]
  apply dbl_congr
  intro p i hp _ hi
  rw [show (fun s => if tn S p i = s then sh (cB S i) (DI S v n r k p i) j else 0) = fun s => if s = tn S p i then sh (cB S i) (DI S v n r k p i) j else 0 by funext s; simp only [eq_comm]]
  rw [sN_single (fun _ => sh (cB S i) (DI S v n r k p i) j) (ht p i hp hi)]
theorem DT_Bg {S : St} {v n : Nat} {r : Nat → Nat} {k t : Nat} (ht : ∀ p i, p < nP S → i < pl S p → tn S p i < 100) : DT S v n r (k + 1) t = fun j => sN 100 (fun s => sh (dst t s) (Bg S v n r (k + 1) s) j) := by
  funext j
  rw [DT_s]
  unfold Bg
  simp only [dbl_sh]
  rw [dbl_sN]
  apply dbl_congr
  intro p i hp _ hi
  rw [← sN_single (fun s => sh (dst t s) (sh (cB S i) (DI S v n r (k + 1) p i)) j) (ht p i hp hi)]
  apply sN_congr
  intro s _
  by_cases c : tn S p i = s
  · rw [if_pos c.symm]
    congr 1
    funext j
    rw [if_pos c]
  · rw [if_neg (fun z => c z.symm), sh_zero]
    intro j
    rw [if_neg c]
def us (S : St) (v t : Nat) : Bool := (List.range (nP S)).any (fun p => decide (pv S p = v) && (List.range (pl S p)).any (fun i => decide (tn S p i = t)))
theorem us_iff {S : St} {v t : Nat} : us S v t = true ↔ ∃ p, p < nP S ∧ pv S p = v ∧ ∃ i, i < pl S p ∧ tn S p i = t := by
  unfold us
  simp
theorem Bg_un {S : St} {v n : Nat} {r : Nat → Nat} {k s : Nat} (h : us S v s = false) : ∀ j, Bg S v n r k s j = 0 := by
  intro j
  unfold Bg
  rw [show dbl S v (fun p i => if tn S p i = s then sh (cB S i) (DI S v n r k p i) j else 0) = dbl S v (fun _ _ => 0) from dbl_congr (fun p i hp hv hi => by
    rw [if_neg]
    intro e
    have : us S v s = true := us_iff.mpr ⟨p, hp, hv, i, hi, e⟩
    rw [h] at this
    cases this)]
  unfold dbl
  apply sN_zero
  intro p _
  split
  · exact sN_zero (fun _ _ => rfl)
  · rfl
/-- bits that begin no higher than t; that begin no lower -/
def Up (B : Nat → Pl) (t : Nat) : Pl := fun j => sN 100 (fun s => if s ≤ t then sh (t - s) (B s) j else 0)
def Dn (B : Nat → Pl) (t : Nat) : Pl := fun j => sN 100 (fun s => if t ≤ s then sh (s - t) (B s) j else 0)
theorem Up_first {B : Nat → Pl} {t : Nat} (ht : t < 100) (h : ∀ s, s < t → ∀ j, B s j = 0) : Up B t = B t := by
  funext j
  unfold Up
  rw [← sN_single (fun s => B s j) ht]
  apply sN_congr
  intro s _
  rcases Nat.lt_trichotomy s t with c | c | c
  · rw [if_pos (by omega), if_neg (by omega), sh_zero _ (h s c)]
  · subst c; rw [if_pos (Nat.le_refl _), if_pos rfl, Nat.sub_self, sh_0]
  · rw [if_neg (by omega), if_neg (by omega)]
theorem Dn_last {B : Nat → Pl} {t : Nat} (ht : t < 100) (h : ∀ s, t < s → s < 100 → ∀ j, B s j = 0) : Dn B t = B t := by
  funext j
  unfold Dn
  rw [← sN_single (fun s => B s j) ht]
  apply sN_congr
  intro s hs
  rcases Nat.lt_trichotomy s t with c | c | c
  · rw [if_neg (by omega), if_neg (by omega)]
  · subst c; rw [if_pos (Nat.le_refl _), if_pos rfl, Nat.sub_self, sh_0]
  · rw [if_pos (by omega), if_neg (by omega), sh_zero _ (h s c hs)]
theorem Up_step {B : Nat → Pl} {a b : Nat} (hab : a < b) (hb : b < 100) (h : ∀ s, a < s → s < b → ∀ j, B s j = 0) : Up B b = fun j => B b j + sh (b - a) (Up B a) j := by
  funext j
  unfold Up
  rw [sh_sum, ← sN_single (fun s => B s j) hb, ← sN_add]
  apply sN_congr
  intro s _
  by_cases c : s ≤ a
  · rw [if_pos (by omega), if_neg (by omega), Nat.zero_add]
    simp only [if_pos c]
    rw [show (fun j => sh (a - s) (B s) j) = sh (a - s) (B s) from rfl, sh_sh, show b - a + (a - s) = b - s by omega]
  · simp only [if_neg c]
    rw [sh_zero _ (fun _ => rfl), Nat.add_zero]
    rcases Nat.lt_trichotomy s b with d | d | d
    · rw [if_pos (by omega), if_neg (by omega), sh_zero _ (h s (by omega) d)]
    · subst d; rw [if_pos (Nat.le_refl _), if_pos rfl, Nat.sub_self, sh_0]
    · rw [if_neg (by omega), if_neg (by omega)]
theorem Dn_step {B : Nat → Pl} {a b : Nat} (hab : a < b) (hb : b < 100) (h : ∀ s, a < s → s < b → ∀ j, B s j = 0) : Dn B a = fun j => B a j + sh (b - a) (Dn B b) j := by
  funext j
  unfold Dn
  rw [sh_sum, ← sN_single (fun s => B s j) (show a < 100 by omega), ← sN_add]
  apply sN_congr
  intro s _
  by_cases c : b ≤ s
  · rw [if_pos (by omega), if_neg (by omega), Nat.zero_add]
    simp only [if_pos c]
    rw [show (fun j => sh (s - b) (B s) j) = sh (s - b) (B s) from rfl, sh_sh, show b - a + (s - b) = s - a by omega]
  · simp only [if_neg c]
    rw [sh_zero _ (fun _ => rfl), Nat.add_zero]
    rcases Nat.lt_trichotomy s a with d | d | d
    · rw [if_neg (by omega), if_neg (by omega)]
    · subst d; rw [if_pos (Nat.le_refl _), if_pos rfl, Nat.sub_self, sh_0]
    · rw [if_pos (by omega), if_neg (by omega), sh_zero _ (h s d (by omega))]
/-- all bits, from tone t: those no higher, and those from the next tone b on -/
theorem All_step {B : Nat → Pl} {a b : Nat} (hab : a < b) (hb : b < 100) (h : ∀ s, a < s → s < b → ∀ j, B s j = 0) : (fun j => sN 100 (fun s => sh (dst a s) (B s) j)) = fun j => Up B a j + sh (b - a) (Dn B b) j := by
  funext j
  unfold Up Dn
  rw [sh_sum, ← sN_add]
  apply sN_congr
  intro s _
  by_cases c : s ≤ a
  · rw [if_pos c, dst_of_ge c]
    simp only [if_neg (show ¬ b ≤ s by omega)]
    rw [sh_zero (b - a) (fun _ => rfl), Nat.add_zero]
  · rw [if_neg c, Nat.zero_add, dst_of_le (by omega)]
    by_cases d : b ≤ s
    · simp only [if_pos d]
      rw [show (fun j => sh (s - b) (B s) j) = sh (s - b) (B s) from rfl, sh_sh, show b - a + (s - b) = s - a by omega]
    · simp only [if_neg d]
      rw [sh_zero _ (h s (by omega) (by omega)), sh_zero _ (fun _ => rfl)]
theorem All_last {B : Nat → Pl} {a : Nat} (h : ∀ s, a < s → s < 100 → ∀ j, B s j = 0) : (fun j => sN 100 (fun s => sh (dst a s) (B s) j)) = Up B a := by
  funext j
  unfold Up
  apply sN_congr
  intro s hs
  by_cases c : s ≤ a
  · rw [if_pos c, dst_of_ge c]
  · rw [if_neg c, sh_zero _ (h s (by omega) hs)]
