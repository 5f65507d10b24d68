/-! ===== wearOf, and what is lost ===== -/
theorem tb_0 {m i : Nat} (hm : m < 2147483648) (h : i < 32) : ((nI m >>> (nI i &&& 31) &&& (1 : Int32)) = (0 : Int32)) = (tb m i = false) := by
  rw [sshr_n hm h, and1_n, lit, eq_n (by omega) (by decide)]
  apply propext
  unfold tb
  rw [Nat.testBit_eq_decide_div_mod_eq, Nat.shiftRight_eq_div_pow, decide_eq_false_iff_not]
  omega
theorem bit_n {m i : Nat} (hm : m < 2147483648) (h : i < 32) : (ushr (nI m) (nI i) &&& (1 : Int32)) = nI (if tb m i then 1 else 0) := by
  rw [ushr_n hm h, and1_n]
  unfold tb
  rw [Nat.testBit_eq_decide_div_mod_eq, Nat.shiftRight_eq_div_pow]
  congr 1
  by_cases c : m / 2 ^ i % 2 = 1
  · rw [c, if_pos (by decide)]
  · rw [if_neg (by rw [decide_eq_true_eq]; exact c)]; omega
theorem lstK_bit (S : St) (p j k : Nat) : tb (lstK S p (k + 1)) j = (tb (lstK S p k) j && (!(al S k p) || tb (pw S k) j)) := by
  rw [lstK]
  cases al S k p
  · simp [tb]
  · simp [tb]
theorem lstK_mono (S : St) (p j k d : Nat) (h : tb (lstK S p k) j = false) : tb (lstK S p (k + d)) j = false := by
  induction d with
  | zero => exact h
  | succ d ih => rw [← Nat.add_assoc, lstK_bit, ih]; rfl
theorem lst_bit {S : St} {p j : Nat} (h : tb (lst S p) j = true) : tb (pw S p) j = true := by
  cases c : tb (pw S p) j
  · have := lstK_mono S p j 0 (nP S) c
    rw [Nat.zero_add] at this
    unfold lst at h
    rw [this] at h; cases h
  · rfl
def wear (S : St) (p j : Nat) : Nat := (if tb (pw S p) j then 1 else 0) + (if tb (lst S p) j then 1 else 0)
theorem wearOf_ok {S : St} (hI : I_pcs S) {p j : Nat} (hp : p < nP S) (hj : j < 32) : f_X11_wearOf (nI p) (nI j) S = some (nI (wear S p j), S) := by
  have hI' := hI
  obtain ⟨h16, -, h54, hA⟩ := hI
  obtain ⟨cp, mp, -⟩ := hA p hp
  have w := cp.w
  have hpn : p < 16 := Nat.lt_of_lt_of_le hp h16
  obtain ⟨-, -, -, -, -, -, p4, -⟩ := mp
  clear cp
  unfold f_X11_wearOf
  rw [gd_t (inb_n hpn (by decide))]
  simp only [cl_n (show p < 2147483648 by omega), p4, tb_0 (show pw S p < 2147483648 by omega) hj]
  by_cases c : tb (pw S p) j = false
  · have : tb (lst S p) j = false := by
      cases d : tb (lst S p) j
      · rfl
      · rw [lst_bit d] at c; cases c
    rw [if_pos c, wear, c, this]; rfl
  · have c : tb (pw S p) j = true := by cases d : tb (pw S p) j; exact absurd d c; rfl
    rw [if_neg (by rw [c]; decide), wear, c]
    refine loopC (fun f (_ : Unit) i => f_X11_wearOf_L17 (fun S => some (1, S)) (fun S => some (2, S)) (nI p) (nI j) f (nI i) S) (fun x => x = some (nI ((if true = true then 1 else 0) + (if tb (lst S p) j then 1 else 0)), S)) (fun i _ => tb (lstK S p i) j = true) (nP S) ?_ ?_ (nP S) 0 FU () (by omega) (by unfold FU; omega) c
    · intro f a ha
      rw [f_X11_wearOf_L17, h54, if_pos (by rw [le_n (by omega) (by omega)]; exact Nat.le_refl _)]
      unfold lst
      rw [ha]; rfl
    · intro f a i hi ha
      obtain ⟨ci, mi, -⟩ := hA i hi
      have w2 := ci.w
      clear ci
      obtain ⟨-, -, -, -, -, -, i4, -⟩ := mi
      simp only
      rw [f_X11_wearOf_L17, h54, if_neg (by rw [le_n (by omega) (by omega)]; omega), alike_ok hI' hp hi, bd_some]
      simp only [lt_eq, gd_t (inb_n (show i < 16 by omega) (show 16 < 2147483648 by decide)), cl_n (show i < 2147483648 by omega), i4, tb_0 (show pw S i < 2147483648 by omega) hj]
      have hb := lstK_bit S p j i
      rw [ha, al_comm S i p, Bool.true_and] at hb
      cases d : al S p i
      · right
        rw [d] at hb
        refine ⟨(), ?_, hb⟩
        rw [if_pos (by decide), lit, plus_n]
      · rw [d] at hb
        rw [if_neg (by decide)]
        cases d2 : tb (pw S i) j
        · left
          rw [if_pos rfl]
          rw [d2] at hb
          have := lstK_mono S p j (i + 1) (nP S - (i + 1)) hb
          rw [show i + 1 + (nP S - (i + 1)) = nP S by omega] at this
          unfold lst
          rw [this]; rfl
        · right
          rw [d2] at hb
          refine ⟨(), ?_, hb⟩
          rw [if_neg (by decide), lit, plus_n]
theorem wearAt_ok {S : St} (hI : I_pcs S) {p j : Nat} (hp : p < nP S) (hj : j < 32) : f_X3_wearAt p (nI j) S = some (nI (wear S p j), S) := by
  obtain ⟨-, -, -, hA⟩ := hI
  obtain ⟨cp, -, c5⟩ := hA p hp
  have w := cp.w
  have w2 : lst S p < 256 := Nat.lt_of_le_of_lt (lstK_le S p (nP S)) w
  obtain ⟨-, -, -, -, -, -, -, -, c4⟩ := cp
  unfold f_X3_wearAt wear
  rw [c4, c5, bit_n (by omega) hj, bit_n (by omega) hj, plus_n]
