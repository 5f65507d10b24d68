/-! ===== how much is lost in all ===== -/
def pcn (m : Nat) : Nat → Nat
  | 0 => 0
  | k + 1 => pcn m k + (if tb m k then 1 else 0)
theorem pcn_le (m k : Nat) : pcn m k ≤ k := by
  induction k with
  | zero => exact Nat.le_refl _
  | succ k ih => rw [pcn]; split <;> omega
theorem pcn_up {m l : Nat} (h : m < 2 ^ l) (d : Nat) : pcn m (l + d) = pcn m l := by
  induction d with
  | zero => rfl
  | succ d ih =>
    have : tb m (l + d) = false := Nat.testBit_lt_two_pow (Nat.lt_of_lt_of_le h (Nat.pow_le_pow_right (by decide) (by omega)))
    rw [← Nat.add_assoc, pcn, ih, this]; rfl
def bcE (v0 : Int32) : Int32 :=
  let x6 := v0 - ((ushr v0 (1 : Int32)) &&& (1431655765 : Int32))
  let x7 := (x6 &&& (858993459 : Int32)) + ((ushr x6 (2 : Int32)) &&& (858993459 : Int32))
  let x8 := (x7 + (ushr x7 (4 : Int32))) &&& (252645135 : Int32)
  let x9 := x8 + (ushr x8 (8 : Int32))
  let x10 := x9 + (ushr x9 (16 : Int32))
  x10 &&& (63 : Int32)
theorem bcE_n {m : Nat} (h : m < 256) : bcE (nI m) = nI (pcn m 8) := by
  have : ∀ m : Fin 256, bcE (nI m.1) = nI (pcn m.1 8) := by decide +kernel
  exact this ⟨m, h⟩
theorem bitCount_ok {m : Nat} (h : m < 256) (S : St) : f_J6_bitCount_0f7a4 (nI m) S = some (nI (pcn m 8), S) := by
  rw [← bcE_n h]; rfl
def lss (S : St) : Nat → Nat
  | 0 => 0
  | k + 1 => lss S k + pcn (lst S k) (pl S k)
theorem lss_le {S : St} (hI : I_pcs S) : ∀ k, k ≤ nP S → lss S k ≤ 8 * k := by
  obtain ⟨-, -, -, hA⟩ := hI
  intro k
  induction k with
  | zero => intro _; exact Nat.le_refl _
  | succ k ih =>
    intro hk
    have h1 := ih (by omega)
    have h2 := pcn_le (lst S k) (pl S k)
    have h3 : pl S k ≤ 8 := (hA k (by omega)).1.2.1
    rw [lss]; omega
theorem lostC {S : St} (hI : I_pcs S) : f_X8_lostInAll S = some (nI (lss S (nP S)), S) := by
  have hI' := hI
  obtain ⟨h16, h11, -, hA⟩ := hI
  obtain ⟨z, -, -, e2⟩ := loopN (fun f (_ : Unit) i => f_X8_lostInAll_L4 (fun x S => some (x, S)) f (nI (lss S i)) (nI i) S) (fun _ => some (nI (lss S (nP S)), S)) (fun _ a => a) (fun _ _ => True) (nP S)
    (fun f a _ => by rw [f_X8_lostInAll_L4, h11, if_pos (by rw [le_n (by omega) (by omega)]; exact Nat.le_refl _)])
    (fun f a i hi _ => by
      refine ⟨?_, trivial⟩
      obtain ⟨ci, -, c5⟩ := hA i hi
      have w : lst S i < 256 := Nat.lt_of_le_of_lt (lstK_le S i (nP S)) ci.w
      have hl : pl S i ≤ 8 := ci.2.1
      have w2 : lst S i < 2 ^ pl S i := Nat.lt_of_le_of_lt (lstK_le S i (nP S)) ci.2.2.2.1
      clear ci
      rw [f_X8_lostInAll_L4, h11, if_neg (by rw [le_n (by omega) (by omega)]; omega), gd_t (pin rfl h16 hi)]
      simp only [cl_n (show i < 2147483648 by omega), c5, bitCount_ok w, bd_some, lt_eq, lit, plus_n]
      have := pcn_up w2 (8 - pl S i)
      rw [show pl S i + (8 - pl S i) = 8 by omega] at this
      rw [this, lss]) (nP S) 0 FU () (by omega) (by unfold FU; omega) trivial
  exact e2
theorem lost14 {S : St} (hI : I_pcs S) {p : Nat} (hp : p < nP S) (a : Nat) (K : Int32 → St → Option (Int32 × St)) :
    f_X11_lost_L14 K (nI p) FU (nI a) (nI 0) S = K (nI (a + pcn (lst S p) (pl S p))) S := by
  have hI' := hI
  obtain ⟨h16, -, -, hA⟩ := hI
  obtain ⟨cp, mp, -⟩ := hA p hp
  have hl : pl S p ≤ 8 := cp.2.1
  have p1 : rd S 56 p = nI (pl S p) := mp.2.2.1
  clear cp mp
  obtain ⟨z, -, -, e2⟩ := loopN (fun f (_ : Unit) i => f_X11_lost_L14 K (nI p) f (nI (a + pcn (lst S p) i)) (nI i) S) (fun _ => K (nI (a + pcn (lst S p) (pl S p))) S) (fun _ a => a) (fun _ _ => True) (pl S p)
    (fun f a _ => by
      rw [f_X11_lost_L14, gd_t (inb_n (by omega) (by decide))]
      simp only [cl_n (show p < 2147483648 by omega), p1]
      rw [if_pos (by rw [le_n (by omega) (by omega)]; exact Nat.le_refl _)])
    (fun f a i hi _ => by
      refine ⟨?_, trivial⟩
      rw [f_X11_lost_L14, gd_t (inb_n (by omega) (by decide))]
      simp only [cl_n (show p < 2147483648 by omega), p1]
      rw [if_neg (by rw [le_n (by omega) (by omega)]; omega), wearOf_ok hI' hp (by omega), bd_some]
      simp only [lt_eq, lit, plus_n, pcn]
      have hw : (nI (wear S p i) = nI 2) = (tb (lst S p) i = true) := by
        have h1 : tb (lst S p) i = true → tb (pw S p) i = true := lst_bit
        rw [eq_n (by unfold wear; split <;> split <;> omega) (by decide)]
        apply propext
        unfold wear
        cases c1 : tb (lst S p) i
        · cases c2 : tb (pw S p) i <;> simp
        · rw [h1 c1]; simp
      simp only [hw]
      by_cases c : tb (lst S p) i = true
      · rw [if_pos c, if_pos c, Nat.add_assoc]
      · rw [if_neg c, if_neg c, Nat.add_assoc]) (pl S p) 0 FU () (by omega) (by unfold FU; omega) trivial
  exact e2
theorem lostM {S : St} (hI : I_pcs S) : f_X11_lost S = some (nI (lss S (nP S)), S) := by
  have hI' := hI
  obtain ⟨h16, -, h54, hA⟩ := hI
  obtain ⟨z, -, -, e2⟩ := loopN (fun f (_ : Unit) i => f_X11_lost_L4 (fun x S => some (x, S)) f (nI (lss S i)) (nI i) S) (fun _ => some (nI (lss S (nP S)), S)) (fun _ a => a) (fun _ _ => True) (nP S)
    (fun f a _ => by rw [f_X11_lost_L4, h54, if_pos (by rw [le_n (by omega) (by omega)]; exact Nat.le_refl _)])
    (fun f a i hi _ => by
      refine ⟨?_, trivial⟩
      rw [f_X11_lost_L4, h54, if_neg (by rw [le_n (by omega) (by omega)]; omega), ← nI_0, lost14 hI' hi]
      simp only [lt_eq, lit, plus_n]
      rw [lss]) (nP S) 0 FU () (by omega) (by unfold FU; omega) trivial
  exact e2
theorem lost_all {S : St} (hI : I_pcs S) : ∃ r, f_X10_lost S = some (r, S) ∧ f_X11_lost S = some (r, S) := by
  refine ⟨_, ?_, lostM hI⟩
  unfold f_X10_lost
  rw [lostC hI, bd_some]
